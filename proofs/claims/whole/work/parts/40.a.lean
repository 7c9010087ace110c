/-! the law's wrappers, by their lists of throws -/
theorem wL_rule {N : Nat} {A : AH} {x1 : Int} {x2 : Int} : fL_rule N A x1 x2 = MP [(1, 1)] (fX8_rule N A x1 x2) := rfl
theorem wL_tide {N : Nat} {A : AH} {x1 : Int} {x2 : Int} : fL_tide N A x1 x2 = MP [(1, 1)] (fX8_tide N A x1 x2) := rfl
theorem wL_depth {N : Nat} {A : AH} {x1 : Int} : fL_depth N A x1 = MP [(3, 1)] (fX8_depth N A x1) := rfl
theorem wL_addPilot {N : Nat} {A : AH} {x1 : Int} : fL_addPilot N A x1 = MP [(1, 1), (2, 2)] (fX8_addPilot N A x1) := rfl
theorem wL_addBoat {N : Nat} {A : AH} {x1 : Int} : fL_addBoat N A x1 = MP [(1, 1), (2, 2)] (fX8_addBoat N A x1) := rfl
theorem wL_order {N : Nat} {A : AH} {x1 : Int} {x2 : Int} {x3 : Int} {x4 : Int} {x5 : Int} : fL_order N A x1 x2 x3 x4 x5 = MP [(1, 1), (2, 2)] (fX8_order N A x1 x2 x3 x4 x5) := rfl
theorem wL_orderOf {N : Nat} {A : AH} {x1 : Int} {x2 : Int} : fL_orderOf N A x1 x2 = MP [(3, 1), (1, 2)] (fX8_orderOf N A x1 x2) := rfl
theorem wL_window {N : Nat} {A : AH} {x1 : Int} {x2 : Int} : fL_window N A x1 x2 = MP [(3, 1), (6, 2)] (fX8_window N A x1 x2) := rfl
theorem wL_hinders {N : Nat} {A : AH} {x1 : Int} {x2 : Int} {x3 : Int} : fL_hinders N A x1 x2 x3 = MP [(3, 1)] (fX8_hinders N A x1 x2 x3) := rfl
theorem wL_plan {N : Nat} {A : AH} {x1 : Int} {x2 : Int} {x3 : Int} : fL_plan N A x1 x2 x3 = MP [(3, 1), (5, 2)] (fX8_plan N A x1 x2 x3) := rfl
theorem wL_run {N : Nat} {A : AH} {x1 : Int} {x2 : Int} {x3 : Int} : fL_run N A x1 x2 x3 = MP [(3, 1), (1, 2), (5, 3)] (fX8_run N A x1 x2 x3) := rfl
theorem wL_serving {N : Nat} {A : AH} {x1 : Int} {x2 : Int} : fL_serving N A x1 x2 = MP [(3, 1), (1, 2), (6, 3)] (fX8_serving N A x1 x2) := rfl
theorem wL_serve {N : Nat} {A : AH} {x1 : Int} : fL_serve N A x1 = MP [(3, 1), (5, 2)] (fX8_serve N A x1) := rfl
theorem wL_release {N : Nat} {A : AH} {x1 : Int} : fL_release N A x1 = MP [(3, 1), (5, 2)] (fX8_release N A x1) := rfl
theorem wL_putOff {N : Nat} {A : AH} {x1 : Int} {x2 : Int} : fL_putOff N A x1 x2 = MP [(3, 1), (1, 2), (5, 3)] (fX8_putOff N A x1 x2) := rfl
theorem wL_urgent {N : Nat} {A : AH} {x1 : Int} : fL_urgent N A x1 = MP [(6, 1)] (fX8_urgent N A x1) := rfl
theorem wL_pilot {N : Nat} {A : AH} {x1 : Int} {x2 : Int} : fL_pilot N A x1 x2 = MP [(3, 1), (1, 2)] (fX8_pilot N A x1 x2) := rfl
theorem wL_planOf {N : Nat} {A : AH} {x1 : Int} {x2 : Int} {x3 : Int} : fL_planOf N A x1 x2 x3 = MP [(3, 1), (6, 2), (1, 3)] (fX8_planOf N A x1 x2 x3) := rfl
theorem wL_place {N : Nat} {A : AH} {x1 : Int} {x2 : Int} : fL_place N A x1 x2 = MP [(3, 1)] (fX8_place N A x1 x2) := rfl
theorem wL_placeAgain {N : Nat} {A : AH} {x1 : Int} {x2 : Int} : fL_placeAgain N A x1 x2 = MP [(3, 1)] (fX8_placeAgain N A x1 x2) := rfl
theorem wL_boat {N : Nat} {A : AH} {x1 : Int} {x2 : Int} : fL_boat N A x1 x2 = MP [(3, 1), (1, 2)] (fX8_boat N A x1 x2) := rfl
theorem wL_pass {N : Nat} {A : AH} {x1 : Int} : fL_pass N A x1 = MP [(1, 1), (2, 2)] (fX8_pass N A x1) := rfl
theorem wL_number {N : Nat} {A : AH} {x1 : Int} : fL_number N A x1 = MP [(1, 1)] (fX8_number N A x1) := rfl
theorem wL_feed {N : Nat} {A : AH} {x1 : Int} : fL_feed N A x1 = MP [(2, 1)] (fX8_feed N A x1) := rfl
theorem wL_read {N : Nat} {A : AH} : fL_read N A = MP [(1, 1), (5, 2)] (fX8_read N A) := rfl
theorem wL_faultPosition {N : Nat} {A : AH} : fL_faultPosition N A = MP [(6, 1)] (fX8_faultPosition N A) := rfl
theorem wL_refusal {N : Nat} {A : AH} {x1 : Int} : fL_refusal N A x1 = MP [(6, 1)] (fX8_refusal N A x1) := rfl
theorem wL_undo {N : Nat} {A : AH} : fL_undo N A = MP [(2, 1)] (fX8_undo N A) := rfl
theorem wL_restoreSnapshot {N : Nat} {A : AH} : fL_restoreSnapshot N A = MP [(2, 1)] (fX8_restoreSnapshot N A) := rfl
