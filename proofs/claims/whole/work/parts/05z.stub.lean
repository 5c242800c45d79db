theorem pm_all_app {α : Type} {f : α → Bool} {a b : List α} (h1 : a.all f = true) (h2 : b.all f = true) : (a ++ b).all f = true := by rw [List.all_append, h1, h2]; rfl
theorem pm_okM_of {lk : List Jvm.Cond} {M : pm_M} (h1 : M.1.1.all (pm_okE lk M.2.2.2.2.1.cls M.2.2.2.2.2.1 M.2.1 M.2.2.2.2.2.2.1 M.2.2.2.2.2.2.2 (M.2.2.2.2.1.name == "<init>")) = true) (h2 : plainName M.2.2.2.2.1.cls = true) : pm_okM lk M = true := by show (_ && _) = true; rw [h1, h2]; rfl
def pm_gd (M : pm_M) : Prop := ∃ lk : List Jvm.Cond, lk.all pm_w = true ∧ pm_okM lk M = true
theorem pm_gd_L : pm_gd mm_L_law := sorry
theorem pm_MT_gd : ∀ M ∈ pm_MT, pm_gd M ∧ pm_okY M = true := sorry
