theorem zt_sshr (x : Int64) {n k : Int} (hn : 0 ≤ n ∧ n < 64) (h0 : 0 ≤ k) (h1 : n + k < 64) : zt (jlshr x (iI n)) k = zt x (n + k) := by
  obtain ⟨m, rfl⟩ : ∃ m : Nat, n = m := ⟨n.toNat, by omega⟩
  unfold zt jlshr
  rw [Int64.toBitVec_shiftRight, BitVec.sshiftRight_eq', BitVec.getLsbD_sshiftRight, z_cs m (by omega)]
  have e2 : ((m : Int) + k).toNat = m + k.toNat := by omega
  rw [decide_eq_false (show ¬ 64 ≤ k.toNat by omega), if_pos (by omega), e2]
  rfl
theorem zt_255 {k : Int} (h0 : 0 ≤ k) (h1 : k < 64) (h : ¬ k < 8) : zt (255 : Int64) k = false := by
  have key : ∀ n : Nat, n < 64 → ¬ (n < 8) → (255 : Int64).toBitVec.getLsbD n = false := by decide +kernel
  exact key _ (by omega) (by omega)
theorem shr_same (z : Int64) {d : Nat} (hd : d < 8) : jlushr z (iI (8 * d)) &&& (255 : Int64) = jlshr z (iI (8 * d)) &&& (255 : Int64) := by
  apply z_ext
  intro k h0 h1
  rw [zt_and, zt_and, zt_ushr z (by omega) h0]
  by_cases hk : k < 8
  · rw [zt_sshr z (by omega) h0 (by omega)]
  · rw [zt_255 h0 h1 hk, Bool.and_false, Bool.and_false]
/-- the bytes of a long that are not 0, the highest first -/
def tyL (z : Int64) : Nat → List Int
  | 0 => []
  | d + 1 => (if byt z (8 * d) = 0 then [] else [byt z (8 * d)]) ++ tyL z d
theorem tyL_len (z : Int64) : ∀ d : Nat, ((tyL z d).length : Int) = tyN z d
  | 0 => rfl
  | d + 1 => by
    have := tyL_len z d
    unfold tyL tyN
    split
    · rw [List.nil_append, this, Int.zero_add]
    · rw [List.length_append, List.length_singleton]; omega
section
variable {D : wD} {S : wS} {o : Nat → Nat} {c : cM} {post : Int32 → wS → Prop} {xp : String → wS → Prop}
theorem q_clearTextC {y : Nat} {L : List Int} {bc bs : Nat} (h : CC D S o) (hT : SB (cS S o c) (o 49) y L) (hc : sN S y < 1000000) (k : ∀ U', EX D (cS S o c) U' [o 49] → SB U' (o 49) y [] → post (iI L.length) U') : wp_X11_clearText D post bc bs (cS S o c) (o 0) := by
  unfold wp_X11_clearText wp_X11_clearText_0
  refine ⟨o 49, c_r h rfl, (c_m h (by decide)).mpr trivial, c_k h (by decide), ?_⟩
  refine q_lenB hT ?_
  refine ⟨o 49, c_r h rfl, (c_m h (by decide)).mpr trivial, c_k h (by decide), bc, bs, Nat.le_refl _, Nat.le_refl _, ?_⟩
  exact q_clearB hT hc k
theorem q_outputByteC {y : Nat} {L : List Int} (h : CC D S o) (hT : SB (cS S o c) (o 50) y L) (hc : sN S y < 1000000) {i : Int} (hi : i32 i)
    (k0 : inB i 0 (L.length - 1) = false → xp "java/lang/IndexOutOfBoundsException" (cS S o c)) (k1 : inB i 0 (L.length - 1) = true → post (iI (L.getD i.toNat 0)) (cS S o c)) : wp_X11_outputByte D post xp (cS S o c) (o 0) (iI i) := by
  have hl : L.length ≤ sN S y := hT.2.1.2.2.2
  unfold wp_X11_outputByte wp_X11_outputByte_0 wp_X11_outputByte_15
  rw [show (0 : Int32) = iI 0 from rfl, iI_lt hi.1 hi.2 (by decide) (by decide)]
  refine ⟨fun q => k0 ?_, fun q => ⟨o 50, c_r h rfl, (c_m h (by decide)).mpr trivial, c_k h (by decide), ?_⟩⟩
  · unfold inB; rw [decide_eq_false (by omega)]; rfl
  refine q_lenB hT ?_
  rw [iI_lt hi.1 hi.2 (by omega) (by omega)]
  refine ⟨fun q2 => ⟨o 50, c_r h rfl, (c_m h (by decide)).mpr trivial, c_k h (by decide), ?_⟩, fun q2 => k0 ?_⟩
  · exact q_charB hT hc ⟨by omega, q2⟩ (k1 (inB_iff.mpr ⟨by omega, by omega⟩))
  · unfold inB; rw [decide_eq_false (show ¬ i ≤ _ by omega), Bool.and_false]
end
