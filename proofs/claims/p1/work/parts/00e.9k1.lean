/-! ===== the cache is met before or behind the guards ===== -/
section MQ5
theorem comm_1 {S : Mem} {a i g x u k f i2 : Nat} {v s : Int32} (ha : 82 < a ∧ a < 87) : sI (lnR (shR S g x u s) k f i2) a i v = lnR (shR (sI S a i v) g x u s) k f i2 := by
  have key : ∀ (X : Mem) (b j : Nat) (w : Int32), (b < 83 ∨ 86 < b) → sI (sI X b j w) a i v = sI (sI X a i v) b j w := fun X b j w h => sI_comm X w v (by omega)
  have e1 : mI (sI S a i v) 125 u = mI S 125 u := mI_ne (by omega)
  have e2 : mI (sI S a i v) 69 76 = mI S 69 76 := mI_ne (by omega)
  unfold lnR
  rw [key _ 69 76 _ (by omega), key _ 118 k _ (by omega)]
  unfold shR
  rw [e1]
  by_cases z : mI S 125 u = -nI 1
  · rw [if_pos z, if_pos z, key _ 123 u _ (by omega), key _ 125 u _ (by omega)]
    unfold akR
    rw [key _ 69 78 _ (by omega), key _ 122 g _ (by omega), key _ 121 g _ (by omega), key _ 120 g _ (by omega), key _ 119 g _ (by omega), e2]
  · rw [if_neg z, if_neg z]
theorem lsh_r {S : Mem} {g x u k f i2 a j : Nat} {s : Int32} (ha : 82 < a ∧ a < 87) : mI (lnR (shR S g x u s) k f i2) a j = mI S a j := by
  unfold lnR
  rw [mI_ne (by omega), mI_ne (by omega)]
  unfold shR
  by_cases z : mI S 125 u = -nI 1
  · rw [if_pos z, mI_ne (by omega), mI_ne (by omega)]
    unfold akR
    rw [mI_ne (by omega), mI_ne (by omega), mI_ne (by omega), mI_ne (by omega), mI_ne (by omega)]
  · rw [if_neg z]
theorem lk_comm {S E : Mem} {p g x u k f i2 : Nat} {key s : Int32} (h : lkR (lnR (shR S g x u s) k f i2) p key E) : ∃ S1, lkR S p key S1 ∧ E = lnR (shR S1 g x u s) k f i2 := by
  have r : ∀ a j, 82 < a → a < 87 → mI (lnR (shR S g x u s) k f i2) a j = mI S a j := fun a j h1 h2 => lsh_r ⟨h1, h2⟩
  have ek : ∀ n, kfd (lnR (shR S g x u s) k f i2) p n key = kfd S p n key := fun n => by unfold kfd; simp only [r 84 _ (by omega) (by omega)]
  rcases h with ⟨h1, h2⟩ | ⟨n, n1, n2, h⟩
  · exact ⟨S, .inl ⟨(r 83 p (by omega) (by omega)).symm.trans h1, rfl⟩, h2⟩
  · have n3 := (r 83 p (by omega) (by omega)).symm.trans n2
    rw [ek] at h
    rcases h with ⟨h1, h2⟩ | ⟨h1, h2⟩
    · refine ⟨hitR S p, .inr ⟨n, n1, n3, .inl ⟨h1, rfl⟩⟩, ?_⟩
      rw [h2]
      unfold hitR
      rw [r 85 p (by omega) (by omega), comm_1 (by omega)]
    · refine ⟨misR S p n key, .inr ⟨n, n1, n3, .inr ⟨h1, rfl⟩⟩, ?_⟩
      rw [h2]
      unfold misR
      rw [r 86 p (by omega) (by omega)]
      by_cases e : n = 3
      · rw [if_pos e, if_pos e, comm_1 (by omega), comm_1 (by omega)]
      · rw [if_neg e, if_neg e, comm_1 (by omega), comm_1 (by omega), comm_1 (by omega)]
end MQ5
