theorem zup_same {m : zM} {a k : Nat} {v : Int} : zup m a k v a k = v := by unfold zup; rw [if_pos ⟨rfl, rfl⟩]
theorem zup_na {m : zM} {a k a' k' : Nat} {v : Int} (h : a' ≠ a) : zup m a k v a' k' = m a' k' := by unfold zup; rw [if_neg (fun q => h q.1)]
theorem zup_nk {m : zM} {a k k' : Nat} {v : Int} (h : k' ≠ k) : zup m a k v a k' = m a k' := by unfold zup; rw [if_neg (fun q => h q.2)]
theorem zwr_id {x : Int} (h1 : -2147483648 ≤ x) (h2 : x < 2147483648) : zwr x = x := Int.bmod_eq_of_le (by omega) (by omega)
theorem x_KeyList_append {L : zY} {m : zM} {Q : zQ} {o ks : Nat} {key : Int} (h1 : zt L o = 2) (h2 : m o 0 = (ks : Int)) (h3 : zt L ks = 20) (h4 : 0 ≤ m o 1) (h5 : zn L ks < 1000) (h6 : m o 1 ≤ zn L ks) (h7 : 2 ≤ ks) :
    zwp 7 0 [zA o, zI key] [] L m Q ↔ if m o 1 < zn L ks then Q none L (zup (zup m ks (m o 1).toNat key) o 1 (m o 1 + 1)) else Q none L m := by
  have hne : o ≠ ks := fun h => by rw [h, h3] at h1; omega
  simp (disch := omega) only [s7_0, s7_1, s7_4, s7_5, s7_8, s7_9, s7_12, s7_13, s7_16, s7_17, s7_20, s7_21, s7_22, s7_23, s7_24, s7_27, s7_28, s7_29, s7_32, h1, h2, h3, Int.toNat_natCast, true_and, zup_na, zwr_id]
  trace_state
  sorry
