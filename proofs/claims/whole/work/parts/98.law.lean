/-! every call keeps both alike -/
theorem INV_law : ∀ k Sc Sr, INV k Sc Sr → k < 512 → LawOK (INV (k + 1)) Sc Sr := fun k Sc Sr h hk =>
  ⟨ok_write h, ok_rule h, ok_input h, ok_fails h, ok_poison h, ok_vanish h, ok_build hk h, ok_plain h, ok_done h, ok_why h, ok_counts h, ok_needs h, ok_users h, ok_ring h, ok_way h, ok_time h, ok_checks h, ok_empty h, ok_forget h, ok_entries h, ok_away h, ok_leaks h⟩
