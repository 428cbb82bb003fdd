theorem eq_dress {σ : Mem} {μ : MMem} (hR : Rel σ μ) (p1 : Int32) : ∃ r σ' μ', f_X11_dress p1 σ = some (r, σ') ∧ f_X12_dress p1 μ = some (r, μ') ∧ Rel σ' μ' := sorry
theorem eq_ring {σ : Mem} {μ : MMem} (hR : Rel σ μ) (p1 p2 : Int32) : ∃ r μ', f_X11_ring p1 p2 σ = some r ∧ f_X12_ring p1 p2 μ = some (r, μ') ∧ Rel σ μ' := sorry
theorem eq_line {σ : Mem} {μ : MMem} (hR : Rel σ μ) (p1 p2 : Int32) : ∃ r σ' μ', f_X11_line p1 p2 σ = some (r, σ') ∧ f_X12_line p1 p2 μ = some (r, μ') ∧ Rel σ' μ' := sorry
theorem eq_may {σ : Mem} {μ : MMem} (hR : Rel σ μ) (p1 p2 : Int32) : ∃ r μ', f_X11_may p1 p2 σ = some r ∧ f_X12_may p1 p2 μ = some (r, μ') ∧ Rel σ μ' := sorry
theorem eq_pin {σ : Mem} {μ : MMem} (hR : Rel σ μ) (p1 p2 : Int32) : ∃ r σ' μ', f_X11_pin p1 p2 σ = some (r, σ') ∧ f_X12_pin p1 p2 μ = some (r, μ') ∧ Rel σ' μ' := sorry
theorem eq_ease {σ : Mem} {μ : MMem} (hR : Rel σ μ) (p1 p2 : Int32) : ∃ r μ', f_X11_ease p1 p2 σ = some r ∧ f_X12_ease p1 p2 μ = some (r, μ') ∧ Rel σ μ' := sorry
theorem eq_fit {σ : Mem} {μ : MMem} (hR : Rel σ μ) (p1 : Int32) : ∃ r μ', f_X11_fit p1 σ = some r ∧ f_X12_fit p1 μ = some (r, μ') ∧ Rel σ μ' := sorry
theorem eq_lacks {σ : Mem} {μ : MMem} (hR : Rel σ μ) : ∃ r μ', f_X11_lacks  σ = some r ∧ f_X12_lacks  μ = some (r, μ') ∧ Rel σ μ' := sorry
theorem eq_bestPin {σ : Mem} {μ : MMem} (hR : Rel σ μ) (p1 p2 : Int32) : ∃ r σ' μ', f_X11_bestPin p1 p2 σ = some (r, σ') ∧ f_X12_bestPin p1 p2 μ = some (r, μ') ∧ Rel σ' μ' := sorry
theorem eq_least {σ : Mem} {μ : MMem} (hR : Rel σ μ) (p1 p2 : Int32) : ∃ r σ' μ', f_X11_least p1 p2 σ = some (r, σ') ∧ f_X12_least p1 p2 μ = some (r, μ') ∧ Rel σ' μ' := sorry
theorem eq_first {σ : Mem} {μ : MMem} (hR : Rel σ μ) (p1 : Int32) : ∃ r σ' μ', f_X11_first p1 σ = some (r, σ') ∧ f_X12_first p1 μ = some (r, μ') ∧ Rel σ' μ' := sorry
theorem eq_orders {σ : Mem} {μ : MMem} (hR : Rel σ μ) (p1 p2 : Int32) : ∃ r σ' μ', f_X11_orders p1 p2 σ = some (r, σ') ∧ f_X12_orders p1 p2 μ = some (r, μ') ∧ Rel σ' μ' := sorry
theorem eq_hem {σ : Mem} {μ : MMem} (hR : Rel σ μ) (p1 p2 p3 : Int32) : ∃ r μ', f_X11_hem p1 p2 p3 = some r ∧ f_X12_hem p1 p2 p3 μ = some (r, μ') ∧ Rel σ μ' := sorry
theorem eq_darts {σ : Mem} {μ : MMem} (hR : Rel σ μ) (p1 p2 p3 p4 : Int32) : ∃ r μ', f_X11_darts p1 p2 p3 p4 = some r ∧ f_X12_darts p1 p2 p3 p4 μ = some (r, μ') ∧ Rel σ μ' := sorry
theorem eq_stripes {σ : Mem} {μ : MMem} (hR : Rel σ μ) (p1 p2 p3 p4 : Int32) : ∃ r μ', f_X11_stripes p1 p2 p3 p4 = some r ∧ f_X12_stripes p1 p2 p3 p4 μ = some (r, μ') ∧ Rel σ μ' := sorry
theorem eq_measures {σ : Mem} {μ : MMem} (hR : Rel σ μ) (p1 p2 : Int32) : ∃ r μ', f_X11_measures p1 p2 σ = some r ∧ f_X12_measures p1 p2 μ = some (r, μ') ∧ Rel σ μ' := sorry
theorem eq_sizes {σ : Mem} {μ : MMem} (hR : Rel σ μ) (p1 p2 p3 : Int32) : ∃ r μ', f_X11_sizes p1 p2 p3 σ = some r ∧ f_X12_sizes p1 p2 p3 μ = some (r, μ') ∧ Rel σ μ' := sorry
theorem eq_old {σ : Mem} {μ : MMem} (hR : Rel σ μ) (p1 : Int32) : ∃ r μ', f_X11_old p1 σ = some r ∧ f_X12_old p1 μ = some (r, μ') ∧ Rel σ μ' := sorry
theorem eq_shape {σ : Mem} {μ : MMem} (hR : Rel σ μ) (p1 p2 : Int32) : ∃ r μ', f_X11_shape p1 p2 σ = some r ∧ f_X12_shape p1 p2 μ = some (r, μ') ∧ Rel σ μ' := sorry
theorem eq_seeded {σ : Mem} {μ : MMem} (hR : Rel σ μ) (p1 p2 p3 : Int32) : ∃ r σ' μ', f_X11_seeded p1 p2 p3 σ = some (r, σ') ∧ f_X12_seeded p1 p2 p3 μ = some (r, μ') ∧ Rel σ' μ' := sorry
theorem eq_judge {σ : Mem} {μ : MMem} (hR : Rel σ μ) (p1 p2 : Int32) : ∃ r μ', f_X11_judge p1 p2 σ = some r ∧ f_X12_judge p1 p2 μ = some (r, μ') ∧ Rel σ μ' := sorry
theorem eq_image {σ : Mem} {μ : MMem} (hR : Rel σ μ) : ∃ r σ' μ', f_X11_image  σ = some (r, σ') ∧ f_X12_image  μ = some (r, μ') ∧ Rel σ' μ' := sorry
theorem eq_restore {σ : Mem} {μ : MMem} (hR : Rel σ μ) : ∃ r σ' μ', f_X11_restore  σ = some (r, σ') ∧ f_X12_restore  μ = some (r, μ') ∧ Rel σ' μ' := sorry
theorem eq_count {σ : Mem} {μ : MMem} (hR : Rel σ μ) (p1 : Int32) : ∃ r μ', f_X11_count p1 σ = some r ∧ f_X12_count p1 μ = some (r, μ') ∧ Rel σ μ' := sorry
theorem eq_keep {σ : Mem} {μ : MMem} (hR : Rel σ μ) (p1 p2 p3 p4 : Int32) : ∃ r σ' μ', f_X11_keep p1 p2 p3 p4 σ = some (r, σ') ∧ f_X12_keep p1 p2 p3 p4 μ = some (r, μ') ∧ Rel σ' μ' := sorry
theorem eq_row {σ : Mem} {μ : MMem} (hR : Rel σ μ) (p1 p2 p3 : Int32) : ∃ r σ' μ', f_X11_row p1 p2 p3 σ = some (r, σ') ∧ f_X12_row p1 p2 p3 μ = some (r, μ') ∧ Rel σ' μ' := sorry
theorem eq_put {σ : Mem} {μ : MMem} (hR : Rel σ μ) (p1 p2 p3 : Int32) : ∃ r σ' μ', f_X11_put p1 p2 p3 σ = some (r, σ') ∧ f_X12_put p1 p2 p3 μ = some (r, μ') ∧ Rel σ' μ' := sorry
theorem eq_copy {σ : Mem} {μ : MMem} (hR : Rel σ μ) (p1 p2 p3 p4 p5 : Int32) : ∃ r σ' μ', f_X11_copy p1 p2 p3 p4 p5 σ = some (r, σ') ∧ f_X12_copy p1 p2 p3 p4 p5 μ = some (r, μ') ∧ Rel σ' μ' := sorry
theorem eq_minutes {σ : Mem} {μ : MMem} (hR : Rel σ μ) (p1 : Int32) : ∃ r μ', f_X11_minutes p1 σ = some r ∧ f_X12_minutes p1 μ = some (r, μ') ∧ Rel σ μ' := sorry
