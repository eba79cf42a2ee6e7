/-! the constructors that make others -/
section KL
variable {D : va_G} {cl : List vw_C} {ws w1 : va_W} {y : Nat × va_E} {A : Nat → Prop} {H H0 H1 : Heap} {locs : List Loc}
theorem kl_P (h : va_P D cl (ws ++ [y]) H) : va_P D cl [y] H := fun k q hk => by
  have : k = 0 := by
    have := (List.getElem?_eq_some_iff.mp hk).1
    simp at this; omega
  subst this
  cases hk
  exact h ws.length y (by rw [List.getElem?_append_right (Nat.le_refl _), Nat.sub_self]; rfl)
theorem kl_at : (ws ++ [y])[ws.length]? = some y := by rw [List.getElem?_append_right (Nat.le_refl _), Nat.sub_self]; rfl
theorem kl_D (h : va_D A (ws ++ [y])) : va_D A [y] := by
  refine ⟨fun i j p q hp hq _ => ?_, fun k q hk => ?_⟩
  · have h1 := (List.getElem?_eq_some_iff.mp hp).1
    have h2 := (List.getElem?_eq_some_iff.mp hq).1
    simp at h1 h2; omega
  · have : k = 0 := by
      have := (List.getElem?_eq_some_iff.mp hk).1
      simp at this; omega
    subst this
    cases hk
    exact h.2 _ _ kl_at
theorem kl_F (hD : va_D A (ws ++ [y])) (hS : va_S A H0 H locs) (hA : ∀ q, H0.size ≤ q → A q) : ∀ q, va_A [y] H.size q → A q := va_free (wc := [y]) hD hS hA [ws.length] (by simp)
theorem kl_R : (List.range ws.length).map (fun i => (ws ++ [y])[i]?) = ws.map some := by
  apply List.ext_getElem?
  intro i
  rw [List.getElem?_map, List.getElem?_map]
  by_cases h : i < ws.length
  · rw [List.getElem?_range h, List.getElem?_eq_getElem h]
    show some ((ws ++ [y])[i]?) = some (some ws[i])
    rw [List.getElem?_append_left h, List.getElem?_eq_getElem h]
  · rw [List.getElem?_eq_none (by simp; omega), List.getElem?_eq_none (by omega)]
    rfl
theorem kl_nd0 : ∀ l : List Nat, l.Nodup → va_nd l = true
  | [], _ => rfl
  | a :: l, h => by
    obtain ⟨h1, h2⟩ := List.nodup_cons.mp h
    show (decide (a ∉ l) && va_nd l) = true
    rw [kl_nd0 l h2, decide_eq_true h1]
    rfl
theorem kl_nd (n : Nat) : va_nd (List.range n) = true := kl_nd0 _ List.nodup_range
theorem kl_J (hP : va_P D cl (ws ++ [y]) H) (hD : va_D A (ws ++ [y])) (hk : ∀ q : Nat, q < H.size → ¬ va_A [y] H.size q → H1[q]? = H[q]?) (hF : ∀ q, va_A [y] H.size q → A q) (hP1 : va_P D cl w1 H1) (hD1 : va_D (va_A [y] H.size) w1) : va_P D cl (ws ++ w1) H1 ∧ va_D A (ws ++ w1) :=
  va_join (wc := [y]) hP hD [ws.length] (List.range ws.length) (by simp) kl_R (kl_nd _) (fun i hi => by simp at hi ⊢; omega) hk hF hP1 hD1
end KL
def kNw : List Cond := [.methodLinkNest "PaperBread" 18 ⟨"PaperBread$Texts", "<init>", "()V"⟩ "PaperBread", .methodLinkNest "PaperBread" 25 ⟨"PaperBread$Town", "<init>", "()V"⟩ "PaperBread", .methodLinkNest "PaperBread$Town" 11 ⟨"PaperBread$Names", "<init>", "()V"⟩ "PaperBread", .methodLinkNest "PaperBread$Town" 20 ⟨"PaperBread$Promises", "<init>", "()V"⟩ "PaperBread", .methodLinkNest "PaperBread$Town" 27 ⟨"PaperBread$Days", "<init>", "()V"⟩ "PaperBread", .methodLinkNest "PaperBread" 39 ⟨"PaperBread$Share", "<init>", "()V"⟩ "PaperBread", .methodLinkNest "PaperBread" 46 ⟨"PaperBread$Netting", "<init>", "()V"⟩ "PaperBread", .methodLinkNest "PaperBread" 53 ⟨"PaperBread$Living", "<init>", "()V"⟩ "PaperBread", .methodLinkNest "PaperBread$Living" 11 ⟨"PaperBread$Share", "<init>", "()V"⟩ "PaperBread"]
def kN (U : State) : Prop := ∀ w ∈ kNw, va_Nw w U
theorem kN.warm {s U : State} (hW : s.WarmedH U.vm) (h : kN s) : kN U := fun w hw => by
  have h1 := h w hw
  simp only [kNw, List.mem_cons, List.not_mem_nil, or_false] at hw
  rcases hw with rfl | rfl | rfl | rfl | rfl | rfl | rfl | rfl | rfl <;> exact va_Nw.warmM hW h1
theorem kN.same {u U : State} (hv : u.vm = U.vm) (h : kN u) : kN U := fun w hw => by
  have h1 := h w hw
  simp only [kNw, List.mem_cons, List.not_mem_nil, or_false] at hw
  rcases hw with rfl | rfl | rfl | rfl | rfl | rfl | rfl | rfl | rfl <;> exact va_Nw.same rfl hv h1
def shN {α : Type} (f : Nat → α) (n : Nat) : Nat → α := fun i => f (n + i)
