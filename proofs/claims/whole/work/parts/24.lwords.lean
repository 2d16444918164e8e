set_option maxRecDepth 100000 in
theorem q_413 : (Jvm.Cond.methodLink "QuarrelBookLaw" (13 : Nat) ({ cls := "QuarrelBook", name := "row", desc := "(II)I" } : Jvm.MethodName)) ∈ lw_good := lw_mem 413 (by decide +kernel) rfl
set_option maxRecDepth 100000 in
theorem q_414 : (Jvm.Cond.instanceMethod ({ cls := "QuarrelBook", name := "row", desc := "(II)I" } : Jvm.MethodName)) ∈ lw_good := lw_mem 414 (by decide +kernel) rfl
set_option maxRecDepth 100000 in
theorem q_415 : (Jvm.Cond.selects "QuarrelBook" ({ cls := "QuarrelBook", name := "row", desc := "(II)I" } : Jvm.MethodName) ({ cls := "QuarrelBook", name := "row", desc := "(II)I" } : Jvm.MethodName)) ∈ lw_good := lw_mem 415 (by decide +kernel) rfl
set_option maxRecDepth 100000 in
theorem q_416 : (Jvm.Cond.code ({ cls := "QuarrelBook", name := "row", desc := "(II)I" } : Jvm.MethodName) prog_1_method_2_code (3 : Nat) (Option.some Jvm.ClassFile.FieldType.int)) ∈ lw_good := lw_mem 416 (by decide +kernel) rfl
set_option maxRecDepth 100000 in
theorem q_429 : (Jvm.Cond.methodLink "QuarrelBookLaw" (18 : Nat) ({ cls := "QuarrelBook", name := "lay", desc := "(III)I" } : Jvm.MethodName)) ∈ lw_good := lw_mem 429 (by decide +kernel) rfl
set_option maxRecDepth 100000 in
theorem q_430 : (Jvm.Cond.instanceMethod ({ cls := "QuarrelBook", name := "lay", desc := "(III)I" } : Jvm.MethodName)) ∈ lw_good := lw_mem 430 (by decide +kernel) rfl
set_option maxRecDepth 100000 in
theorem q_431 : (Jvm.Cond.selects "QuarrelBook" ({ cls := "QuarrelBook", name := "lay", desc := "(III)I" } : Jvm.MethodName) ({ cls := "QuarrelBook", name := "lay", desc := "(III)I" } : Jvm.MethodName)) ∈ lw_good := lw_mem 431 (by decide +kernel) rfl
set_option maxRecDepth 100000 in
theorem q_432 : (Jvm.Cond.code ({ cls := "QuarrelBook", name := "lay", desc := "(III)I" } : Jvm.MethodName) prog_1_method_3_code (6 : Nat) (Option.some Jvm.ClassFile.FieldType.int)) ∈ lw_good := lw_mem 432 (by decide +kernel) rfl
set_option maxRecDepth 100000 in
theorem q_437 : (Jvm.Cond.methodLink "QuarrelBookLaw" (23 : Nat) ({ cls := "QuarrelBook", name := "tear", desc := "(I)I" } : Jvm.MethodName)) ∈ lw_good := lw_mem 437 (by decide +kernel) rfl
set_option maxRecDepth 100000 in
theorem q_438 : (Jvm.Cond.instanceMethod ({ cls := "QuarrelBook", name := "tear", desc := "(I)I" } : Jvm.MethodName)) ∈ lw_good := lw_mem 438 (by decide +kernel) rfl
set_option maxRecDepth 100000 in
theorem q_439 : (Jvm.Cond.selects "QuarrelBook" ({ cls := "QuarrelBook", name := "tear", desc := "(I)I" } : Jvm.MethodName) ({ cls := "QuarrelBook", name := "tear", desc := "(I)I" } : Jvm.MethodName)) ∈ lw_good := lw_mem 439 (by decide +kernel) rfl
set_option maxRecDepth 100000 in
theorem q_440 : (Jvm.Cond.code ({ cls := "QuarrelBook", name := "tear", desc := "(I)I" } : Jvm.MethodName) prog_1_method_4_code (2 : Nat) (Option.some Jvm.ClassFile.FieldType.int)) ∈ lw_good := lw_mem 440 (by decide +kernel) rfl
set_option maxRecDepth 100000 in
theorem q_441 : (Jvm.Cond.methodLink "QuarrelBookLaw" (28 : Nat) ({ cls := "QuarrelBook", name := "copy", desc := "(IIIII)I" } : Jvm.MethodName)) ∈ lw_good := lw_mem 441 (by decide +kernel) rfl
set_option maxRecDepth 100000 in
theorem q_442 : (Jvm.Cond.instanceMethod ({ cls := "QuarrelBook", name := "copy", desc := "(IIIII)I" } : Jvm.MethodName)) ∈ lw_good := lw_mem 442 (by decide +kernel) rfl
set_option maxRecDepth 100000 in
theorem q_443 : (Jvm.Cond.selects "QuarrelBook" ({ cls := "QuarrelBook", name := "copy", desc := "(IIIII)I" } : Jvm.MethodName) ({ cls := "QuarrelBook", name := "copy", desc := "(IIIII)I" } : Jvm.MethodName)) ∈ lw_good := lw_mem 443 (by decide +kernel) rfl
set_option maxRecDepth 100000 in
theorem q_444 : (Jvm.Cond.code ({ cls := "QuarrelBook", name := "copy", desc := "(IIIII)I" } : Jvm.MethodName) prog_1_method_5_code (8 : Nat) (Option.some Jvm.ClassFile.FieldType.int)) ∈ lw_good := lw_mem 444 (by decide +kernel) rfl
set_option maxRecDepth 100000 in
theorem q_452 : (Jvm.Cond.methodLink "QuarrelBookLaw" (33 : Nat) ({ cls := "QuarrelBook", name := "mean", desc := "(I)I" } : Jvm.MethodName)) ∈ lw_good := lw_mem 452 (by decide +kernel) rfl
set_option maxRecDepth 100000 in
theorem q_453 : (Jvm.Cond.instanceMethod ({ cls := "QuarrelBook", name := "mean", desc := "(I)I" } : Jvm.MethodName)) ∈ lw_good := lw_mem 453 (by decide +kernel) rfl
set_option maxRecDepth 100000 in
theorem q_454 : (Jvm.Cond.selects "QuarrelBook" ({ cls := "QuarrelBook", name := "mean", desc := "(I)I" } : Jvm.MethodName) ({ cls := "QuarrelBook", name := "mean", desc := "(I)I" } : Jvm.MethodName)) ∈ lw_good := lw_mem 454 (by decide +kernel) rfl
set_option maxRecDepth 100000 in
theorem q_455 : (Jvm.Cond.code ({ cls := "QuarrelBook", name := "mean", desc := "(I)I" } : Jvm.MethodName) prog_1_method_6_code (3 : Nat) (Option.some Jvm.ClassFile.FieldType.int)) ∈ lw_good := lw_mem 455 (by decide +kernel) rfl
set_option maxRecDepth 100000 in
theorem q_460 : (Jvm.Cond.methodLink "QuarrelBookLaw" (37 : Nat) ({ cls := "QuarrelBook", name := "text", desc := "(II)I" } : Jvm.MethodName)) ∈ lw_good := lw_mem 460 (by decide +kernel) rfl
set_option maxRecDepth 100000 in
theorem q_461 : (Jvm.Cond.instanceMethod ({ cls := "QuarrelBook", name := "text", desc := "(II)I" } : Jvm.MethodName)) ∈ lw_good := lw_mem 461 (by decide +kernel) rfl
set_option maxRecDepth 100000 in
theorem q_462 : (Jvm.Cond.selects "QuarrelBook" ({ cls := "QuarrelBook", name := "text", desc := "(II)I" } : Jvm.MethodName) ({ cls := "QuarrelBook", name := "text", desc := "(II)I" } : Jvm.MethodName)) ∈ lw_good := lw_mem 462 (by decide +kernel) rfl
set_option maxRecDepth 100000 in
theorem q_463 : (Jvm.Cond.code ({ cls := "QuarrelBook", name := "text", desc := "(II)I" } : Jvm.MethodName) prog_1_method_7_code (3 : Nat) (Option.some Jvm.ClassFile.FieldType.int)) ∈ lw_good := lw_mem 463 (by decide +kernel) rfl
set_option maxRecDepth 100000 in
theorem q_471 : (Jvm.Cond.methodLink "QuarrelBookLaw" (41 : Nat) ({ cls := "QuarrelBook", name := "put", desc := "(III)I" } : Jvm.MethodName)) ∈ lw_good := lw_mem 471 (by decide +kernel) rfl
set_option maxRecDepth 100000 in
theorem q_472 : (Jvm.Cond.instanceMethod ({ cls := "QuarrelBook", name := "put", desc := "(III)I" } : Jvm.MethodName)) ∈ lw_good := lw_mem 472 (by decide +kernel) rfl
set_option maxRecDepth 100000 in
theorem q_473 : (Jvm.Cond.selects "QuarrelBook" ({ cls := "QuarrelBook", name := "put", desc := "(III)I" } : Jvm.MethodName) ({ cls := "QuarrelBook", name := "put", desc := "(III)I" } : Jvm.MethodName)) ∈ lw_good := lw_mem 473 (by decide +kernel) rfl
set_option maxRecDepth 100000 in
theorem q_474 : (Jvm.Cond.code ({ cls := "QuarrelBook", name := "put", desc := "(III)I" } : Jvm.MethodName) prog_1_method_8_code (6 : Nat) (Option.some Jvm.ClassFile.FieldType.int)) ∈ lw_good := lw_mem 474 (by decide +kernel) rfl
set_option maxRecDepth 100000 in
theorem q_475 : (Jvm.Cond.methodLink "QuarrelBookLaw" (45 : Nat) ({ cls := "QuarrelBook", name := "instance", desc := "(I)I" } : Jvm.MethodName)) ∈ lw_good := lw_mem 475 (by decide +kernel) rfl
set_option maxRecDepth 100000 in
theorem q_476 : (Jvm.Cond.instanceMethod ({ cls := "QuarrelBook", name := "instance", desc := "(I)I" } : Jvm.MethodName)) ∈ lw_good := lw_mem 476 (by decide +kernel) rfl
set_option maxRecDepth 100000 in
theorem q_477 : (Jvm.Cond.selects "QuarrelBook" ({ cls := "QuarrelBook", name := "instance", desc := "(I)I" } : Jvm.MethodName) ({ cls := "QuarrelBook", name := "instance", desc := "(I)I" } : Jvm.MethodName)) ∈ lw_good := lw_mem 477 (by decide +kernel) rfl
set_option maxRecDepth 100000 in
theorem q_478 : (Jvm.Cond.code ({ cls := "QuarrelBook", name := "instance", desc := "(I)I" } : Jvm.MethodName) prog_1_method_9_code (2 : Nat) (Option.some Jvm.ClassFile.FieldType.int)) ∈ lw_good := lw_mem 478 (by decide +kernel) rfl
set_option maxRecDepth 100000 in
theorem q_483 : (Jvm.Cond.methodLink "QuarrelBookLaw" (49 : Nat) ({ cls := "QuarrelBook", name := "master", desc := "(III)I" } : Jvm.MethodName)) ∈ lw_good := lw_mem 483 (by decide +kernel) rfl
set_option maxRecDepth 100000 in
theorem q_484 : (Jvm.Cond.instanceMethod ({ cls := "QuarrelBook", name := "master", desc := "(III)I" } : Jvm.MethodName)) ∈ lw_good := lw_mem 484 (by decide +kernel) rfl
set_option maxRecDepth 100000 in
theorem q_485 : (Jvm.Cond.selects "QuarrelBook" ({ cls := "QuarrelBook", name := "master", desc := "(III)I" } : Jvm.MethodName) ({ cls := "QuarrelBook", name := "master", desc := "(III)I" } : Jvm.MethodName)) ∈ lw_good := lw_mem 485 (by decide +kernel) rfl
set_option maxRecDepth 100000 in
theorem q_486 : (Jvm.Cond.code ({ cls := "QuarrelBook", name := "master", desc := "(III)I" } : Jvm.MethodName) prog_1_method_10_code (4 : Nat) (Option.some Jvm.ClassFile.FieldType.int)) ∈ lw_good := lw_mem 486 (by decide +kernel) rfl
set_option maxRecDepth 100000 in
theorem q_496 : (Jvm.Cond.methodLink "QuarrelBookLaw" (53 : Nat) ({ cls := "QuarrelBook", name := "saying", desc := "(IIIII)I" } : Jvm.MethodName)) ∈ lw_good := lw_mem 496 (by decide +kernel) rfl
set_option maxRecDepth 100000 in
theorem q_497 : (Jvm.Cond.instanceMethod ({ cls := "QuarrelBook", name := "saying", desc := "(IIIII)I" } : Jvm.MethodName)) ∈ lw_good := lw_mem 497 (by decide +kernel) rfl
set_option maxRecDepth 100000 in
theorem q_498 : (Jvm.Cond.selects "QuarrelBook" ({ cls := "QuarrelBook", name := "saying", desc := "(IIIII)I" } : Jvm.MethodName) ({ cls := "QuarrelBook", name := "saying", desc := "(IIIII)I" } : Jvm.MethodName)) ∈ lw_good := lw_mem 498 (by decide +kernel) rfl
set_option maxRecDepth 100000 in
theorem q_499 : (Jvm.Cond.code ({ cls := "QuarrelBook", name := "saying", desc := "(IIIII)I" } : Jvm.MethodName) prog_1_method_11_code (6 : Nat) (Option.some Jvm.ClassFile.FieldType.int)) ∈ lw_good := lw_mem 499 (by decide +kernel) rfl
set_option maxRecDepth 100000 in
theorem q_517 : (Jvm.Cond.methodLink "QuarrelBookLaw" (57 : Nat) ({ cls := "QuarrelBook", name := "sayings", desc := "(III)I" } : Jvm.MethodName)) ∈ lw_good := lw_mem 517 (by decide +kernel) rfl
set_option maxRecDepth 100000 in
theorem q_518 : (Jvm.Cond.instanceMethod ({ cls := "QuarrelBook", name := "sayings", desc := "(III)I" } : Jvm.MethodName)) ∈ lw_good := lw_mem 518 (by decide +kernel) rfl
set_option maxRecDepth 100000 in
theorem q_519 : (Jvm.Cond.selects "QuarrelBook" ({ cls := "QuarrelBook", name := "sayings", desc := "(III)I" } : Jvm.MethodName) ({ cls := "QuarrelBook", name := "sayings", desc := "(III)I" } : Jvm.MethodName)) ∈ lw_good := lw_mem 519 (by decide +kernel) rfl
set_option maxRecDepth 100000 in
theorem q_520 : (Jvm.Cond.code ({ cls := "QuarrelBook", name := "sayings", desc := "(III)I" } : Jvm.MethodName) prog_1_method_12_code (7 : Nat) (Option.some Jvm.ClassFile.FieldType.int)) ∈ lw_good := lw_mem 520 (by decide +kernel) rfl
set_option maxRecDepth 100000 in
theorem q_521 : (Jvm.Cond.methodLink "QuarrelBookLaw" (61 : Nat) ({ cls := "QuarrelBook", name := "told", desc := "(II)I" } : Jvm.MethodName)) ∈ lw_good := lw_mem 521 (by decide +kernel) rfl
set_option maxRecDepth 100000 in
theorem q_522 : (Jvm.Cond.instanceMethod ({ cls := "QuarrelBook", name := "told", desc := "(II)I" } : Jvm.MethodName)) ∈ lw_good := lw_mem 522 (by decide +kernel) rfl
set_option maxRecDepth 100000 in
theorem q_523 : (Jvm.Cond.selects "QuarrelBook" ({ cls := "QuarrelBook", name := "told", desc := "(II)I" } : Jvm.MethodName) ({ cls := "QuarrelBook", name := "told", desc := "(II)I" } : Jvm.MethodName)) ∈ lw_good := lw_mem 523 (by decide +kernel) rfl
set_option maxRecDepth 100000 in
theorem q_524 : (Jvm.Cond.code ({ cls := "QuarrelBook", name := "told", desc := "(II)I" } : Jvm.MethodName) prog_1_method_13_code (3 : Nat) (Option.some Jvm.ClassFile.FieldType.int)) ∈ lw_good := lw_mem 524 (by decide +kernel) rfl
set_option maxRecDepth 100000 in
theorem q_533 : (Jvm.Cond.methodLink "QuarrelBookLaw" (65 : Nat) ({ cls := "QuarrelBook", name := "traits", desc := "(I)I" } : Jvm.MethodName)) ∈ lw_good := lw_mem 533 (by decide +kernel) rfl
set_option maxRecDepth 100000 in
theorem q_534 : (Jvm.Cond.instanceMethod ({ cls := "QuarrelBook", name := "traits", desc := "(I)I" } : Jvm.MethodName)) ∈ lw_good := lw_mem 534 (by decide +kernel) rfl
set_option maxRecDepth 100000 in
theorem q_535 : (Jvm.Cond.selects "QuarrelBook" ({ cls := "QuarrelBook", name := "traits", desc := "(I)I" } : Jvm.MethodName) ({ cls := "QuarrelBook", name := "traits", desc := "(I)I" } : Jvm.MethodName)) ∈ lw_good := lw_mem 535 (by decide +kernel) rfl
set_option maxRecDepth 100000 in
theorem q_536 : (Jvm.Cond.code ({ cls := "QuarrelBook", name := "traits", desc := "(I)I" } : Jvm.MethodName) prog_1_method_14_code (2 : Nat) (Option.some Jvm.ClassFile.FieldType.int)) ∈ lw_good := lw_mem 536 (by decide +kernel) rfl
set_option maxRecDepth 100000 in
theorem q_537 : (Jvm.Cond.methodLink "QuarrelBookLaw" (69 : Nat) ({ cls := "QuarrelBook", name := "life", desc := "(II)I" } : Jvm.MethodName)) ∈ lw_good := lw_mem 537 (by decide +kernel) rfl
set_option maxRecDepth 100000 in
theorem q_538 : (Jvm.Cond.instanceMethod ({ cls := "QuarrelBook", name := "life", desc := "(II)I" } : Jvm.MethodName)) ∈ lw_good := lw_mem 538 (by decide +kernel) rfl
set_option maxRecDepth 100000 in
theorem q_539 : (Jvm.Cond.selects "QuarrelBook" ({ cls := "QuarrelBook", name := "life", desc := "(II)I" } : Jvm.MethodName) ({ cls := "QuarrelBook", name := "life", desc := "(II)I" } : Jvm.MethodName)) ∈ lw_good := lw_mem 539 (by decide +kernel) rfl
set_option maxRecDepth 100000 in
theorem q_540 : (Jvm.Cond.code ({ cls := "QuarrelBook", name := "life", desc := "(II)I" } : Jvm.MethodName) prog_1_method_15_code (3 : Nat) (Option.some Jvm.ClassFile.FieldType.int)) ∈ lw_good := lw_mem 540 (by decide +kernel) rfl
set_option maxRecDepth 100000 in
theorem q_549 : (Jvm.Cond.methodLink "QuarrelBookLaw" (73 : Nat) ({ cls := "QuarrelBook", name := "fault", desc := "(I)I" } : Jvm.MethodName)) ∈ lw_good := lw_mem 549 (by decide +kernel) rfl
set_option maxRecDepth 100000 in
theorem q_550 : (Jvm.Cond.instanceMethod ({ cls := "QuarrelBook", name := "fault", desc := "(I)I" } : Jvm.MethodName)) ∈ lw_good := lw_mem 550 (by decide +kernel) rfl
set_option maxRecDepth 100000 in
theorem q_551 : (Jvm.Cond.selects "QuarrelBook" ({ cls := "QuarrelBook", name := "fault", desc := "(I)I" } : Jvm.MethodName) ({ cls := "QuarrelBook", name := "fault", desc := "(I)I" } : Jvm.MethodName)) ∈ lw_good := lw_mem 551 (by decide +kernel) rfl
set_option maxRecDepth 100000 in
theorem q_552 : (Jvm.Cond.code ({ cls := "QuarrelBook", name := "fault", desc := "(I)I" } : Jvm.MethodName) prog_1_method_16_code (2 : Nat) (Option.some Jvm.ClassFile.FieldType.int)) ∈ lw_good := lw_mem 552 (by decide +kernel) rfl
set_option maxRecDepth 100000 in
theorem q_570 : (Jvm.Cond.methodLink "QuarrelBookLaw" (77 : Nat) ({ cls := "QuarrelBook", name := "rule", desc := "(I)I" } : Jvm.MethodName)) ∈ lw_good := lw_mem 570 (by decide +kernel) rfl
set_option maxRecDepth 100000 in
theorem q_571 : (Jvm.Cond.instanceMethod ({ cls := "QuarrelBook", name := "rule", desc := "(I)I" } : Jvm.MethodName)) ∈ lw_good := lw_mem 571 (by decide +kernel) rfl
set_option maxRecDepth 100000 in
theorem q_572 : (Jvm.Cond.selects "QuarrelBook" ({ cls := "QuarrelBook", name := "rule", desc := "(I)I" } : Jvm.MethodName) ({ cls := "QuarrelBook", name := "rule", desc := "(I)I" } : Jvm.MethodName)) ∈ lw_good := lw_mem 572 (by decide +kernel) rfl
set_option maxRecDepth 100000 in
theorem q_573 : (Jvm.Cond.code ({ cls := "QuarrelBook", name := "rule", desc := "(I)I" } : Jvm.MethodName) prog_1_method_17_code (3 : Nat) (Option.some Jvm.ClassFile.FieldType.int)) ∈ lw_good := lw_mem 573 (by decide +kernel) rfl
set_option maxRecDepth 100000 in
theorem q_574 : (Jvm.Cond.methodLink "QuarrelBookLaw" (81 : Nat) ({ cls := "QuarrelBook", name := "answers", desc := "(II)I" } : Jvm.MethodName)) ∈ lw_good := lw_mem 574 (by decide +kernel) rfl
set_option maxRecDepth 100000 in
theorem q_575 : (Jvm.Cond.instanceMethod ({ cls := "QuarrelBook", name := "answers", desc := "(II)I" } : Jvm.MethodName)) ∈ lw_good := lw_mem 575 (by decide +kernel) rfl
set_option maxRecDepth 100000 in
theorem q_576 : (Jvm.Cond.selects "QuarrelBook" ({ cls := "QuarrelBook", name := "answers", desc := "(II)I" } : Jvm.MethodName) ({ cls := "QuarrelBook", name := "answers", desc := "(II)I" } : Jvm.MethodName)) ∈ lw_good := lw_mem 576 (by decide +kernel) rfl
set_option maxRecDepth 100000 in
theorem q_577 : (Jvm.Cond.code ({ cls := "QuarrelBook", name := "answers", desc := "(II)I" } : Jvm.MethodName) prog_1_method_18_code (3 : Nat) (Option.some Jvm.ClassFile.FieldType.int)) ∈ lw_good := lw_mem 577 (by decide +kernel) rfl
set_option maxRecDepth 100000 in
theorem q_582 : (Jvm.Cond.methodLink "QuarrelBookLaw" (85 : Nat) ({ cls := "QuarrelBook", name := "fits", desc := "(II)I" } : Jvm.MethodName)) ∈ lw_good := lw_mem 582 (by decide +kernel) rfl
set_option maxRecDepth 100000 in
theorem q_583 : (Jvm.Cond.instanceMethod ({ cls := "QuarrelBook", name := "fits", desc := "(II)I" } : Jvm.MethodName)) ∈ lw_good := lw_mem 583 (by decide +kernel) rfl
set_option maxRecDepth 100000 in
theorem q_584 : (Jvm.Cond.selects "QuarrelBook" ({ cls := "QuarrelBook", name := "fits", desc := "(II)I" } : Jvm.MethodName) ({ cls := "QuarrelBook", name := "fits", desc := "(II)I" } : Jvm.MethodName)) ∈ lw_good := lw_mem 584 (by decide +kernel) rfl
set_option maxRecDepth 100000 in
theorem q_585 : (Jvm.Cond.code ({ cls := "QuarrelBook", name := "fits", desc := "(II)I" } : Jvm.MethodName) prog_1_method_19_code (3 : Nat) (Option.some Jvm.ClassFile.FieldType.int)) ∈ lw_good := lw_mem 585 (by decide +kernel) rfl
set_option maxRecDepth 100000 in
theorem q_603 : (Jvm.Cond.methodLink "QuarrelBookLaw" (89 : Nat) ({ cls := "QuarrelBook", name := "prices", desc := "(III)I" } : Jvm.MethodName)) ∈ lw_good := lw_mem 603 (by decide +kernel) rfl
set_option maxRecDepth 100000 in
theorem q_604 : (Jvm.Cond.instanceMethod ({ cls := "QuarrelBook", name := "prices", desc := "(III)I" } : Jvm.MethodName)) ∈ lw_good := lw_mem 604 (by decide +kernel) rfl
set_option maxRecDepth 100000 in
theorem q_605 : (Jvm.Cond.selects "QuarrelBook" ({ cls := "QuarrelBook", name := "prices", desc := "(III)I" } : Jvm.MethodName) ({ cls := "QuarrelBook", name := "prices", desc := "(III)I" } : Jvm.MethodName)) ∈ lw_good := lw_mem 605 (by decide +kernel) rfl
set_option maxRecDepth 100000 in
theorem q_606 : (Jvm.Cond.code ({ cls := "QuarrelBook", name := "prices", desc := "(III)I" } : Jvm.MethodName) prog_1_method_20_code (4 : Nat) (Option.some Jvm.ClassFile.FieldType.int)) ∈ lw_good := lw_mem 606 (by decide +kernel) rfl
set_option maxRecDepth 100000 in
theorem q_614 : (Jvm.Cond.methodLink "QuarrelBookLaw" (93 : Nat) ({ cls := "QuarrelBook", name := "costs", desc := "(II)I" } : Jvm.MethodName)) ∈ lw_good := lw_mem 614 (by decide +kernel) rfl
set_option maxRecDepth 100000 in
theorem q_615 : (Jvm.Cond.instanceMethod ({ cls := "QuarrelBook", name := "costs", desc := "(II)I" } : Jvm.MethodName)) ∈ lw_good := lw_mem 615 (by decide +kernel) rfl
set_option maxRecDepth 100000 in
theorem q_616 : (Jvm.Cond.selects "QuarrelBook" ({ cls := "QuarrelBook", name := "costs", desc := "(II)I" } : Jvm.MethodName) ({ cls := "QuarrelBook", name := "costs", desc := "(II)I" } : Jvm.MethodName)) ∈ lw_good := lw_mem 616 (by decide +kernel) rfl
set_option maxRecDepth 100000 in
theorem q_617 : (Jvm.Cond.code ({ cls := "QuarrelBook", name := "costs", desc := "(II)I" } : Jvm.MethodName) prog_1_method_21_code (3 : Nat) (Option.some Jvm.ClassFile.FieldType.int)) ∈ lw_good := lw_mem 617 (by decide +kernel) rfl
set_option maxRecDepth 100000 in
theorem q_631 : (Jvm.Cond.methodLink "QuarrelBookLaw" (97 : Nat) ({ cls := "QuarrelBook", name := "settle", desc := "(I)I" } : Jvm.MethodName)) ∈ lw_good := lw_mem 631 (by decide +kernel) rfl
set_option maxRecDepth 100000 in
theorem q_632 : (Jvm.Cond.instanceMethod ({ cls := "QuarrelBook", name := "settle", desc := "(I)I" } : Jvm.MethodName)) ∈ lw_good := lw_mem 632 (by decide +kernel) rfl
set_option maxRecDepth 100000 in
theorem q_633 : (Jvm.Cond.selects "QuarrelBook" ({ cls := "QuarrelBook", name := "settle", desc := "(I)I" } : Jvm.MethodName) ({ cls := "QuarrelBook", name := "settle", desc := "(I)I" } : Jvm.MethodName)) ∈ lw_good := lw_mem 633 (by decide +kernel) rfl
set_option maxRecDepth 100000 in
theorem q_634 : (Jvm.Cond.code ({ cls := "QuarrelBook", name := "settle", desc := "(I)I" } : Jvm.MethodName) prog_1_method_22_code (3 : Nat) (Option.some Jvm.ClassFile.FieldType.int)) ∈ lw_good := lw_mem 634 (by decide +kernel) rfl
set_option maxRecDepth 100000 in
theorem q_658 : (Jvm.Cond.methodLink "QuarrelBookLaw" (101 : Nat) ({ cls := "QuarrelBook", name := "second", desc := "(I)I" } : Jvm.MethodName)) ∈ lw_good := lw_mem 658 (by decide +kernel) rfl
set_option maxRecDepth 100000 in
theorem q_659 : (Jvm.Cond.instanceMethod ({ cls := "QuarrelBook", name := "second", desc := "(I)I" } : Jvm.MethodName)) ∈ lw_good := lw_mem 659 (by decide +kernel) rfl
set_option maxRecDepth 100000 in
theorem q_660 : (Jvm.Cond.selects "QuarrelBook" ({ cls := "QuarrelBook", name := "second", desc := "(I)I" } : Jvm.MethodName) ({ cls := "QuarrelBook", name := "second", desc := "(I)I" } : Jvm.MethodName)) ∈ lw_good := lw_mem 660 (by decide +kernel) rfl
set_option maxRecDepth 100000 in
theorem q_661 : (Jvm.Cond.code ({ cls := "QuarrelBook", name := "second", desc := "(I)I" } : Jvm.MethodName) prog_1_method_23_code (2 : Nat) (Option.some Jvm.ClassFile.FieldType.int)) ∈ lw_good := lw_mem 661 (by decide +kernel) rfl
set_option maxRecDepth 100000 in
theorem q_662 : (Jvm.Cond.methodLink "QuarrelBookLaw" (105 : Nat) ({ cls := "QuarrelBook", name := "cheap", desc := "(I)I" } : Jvm.MethodName)) ∈ lw_good := lw_mem 662 (by decide +kernel) rfl
set_option maxRecDepth 100000 in
theorem q_663 : (Jvm.Cond.instanceMethod ({ cls := "QuarrelBook", name := "cheap", desc := "(I)I" } : Jvm.MethodName)) ∈ lw_good := lw_mem 663 (by decide +kernel) rfl
set_option maxRecDepth 100000 in
theorem q_664 : (Jvm.Cond.selects "QuarrelBook" ({ cls := "QuarrelBook", name := "cheap", desc := "(I)I" } : Jvm.MethodName) ({ cls := "QuarrelBook", name := "cheap", desc := "(I)I" } : Jvm.MethodName)) ∈ lw_good := lw_mem 664 (by decide +kernel) rfl
set_option maxRecDepth 100000 in
theorem q_665 : (Jvm.Cond.code ({ cls := "QuarrelBook", name := "cheap", desc := "(I)I" } : Jvm.MethodName) prog_1_method_24_code (3 : Nat) (Option.some Jvm.ClassFile.FieldType.int)) ∈ lw_good := lw_mem 665 (by decide +kernel) rfl
set_option maxRecDepth 100000 in
theorem q_670 : (Jvm.Cond.methodLink "QuarrelBookLaw" (109 : Nat) ({ cls := "QuarrelBook", name := "cheapAt", desc := "(II)I" } : Jvm.MethodName)) ∈ lw_good := lw_mem 670 (by decide +kernel) rfl
set_option maxRecDepth 100000 in
theorem q_671 : (Jvm.Cond.instanceMethod ({ cls := "QuarrelBook", name := "cheapAt", desc := "(II)I" } : Jvm.MethodName)) ∈ lw_good := lw_mem 671 (by decide +kernel) rfl
set_option maxRecDepth 100000 in
theorem q_672 : (Jvm.Cond.selects "QuarrelBook" ({ cls := "QuarrelBook", name := "cheapAt", desc := "(II)I" } : Jvm.MethodName) ({ cls := "QuarrelBook", name := "cheapAt", desc := "(II)I" } : Jvm.MethodName)) ∈ lw_good := lw_mem 672 (by decide +kernel) rfl
set_option maxRecDepth 100000 in
theorem q_673 : (Jvm.Cond.code ({ cls := "QuarrelBook", name := "cheapAt", desc := "(II)I" } : Jvm.MethodName) prog_1_method_25_code (4 : Nat) (Option.some Jvm.ClassFile.FieldType.int)) ∈ lw_good := lw_mem 673 (by decide +kernel) rfl
set_option maxRecDepth 100000 in
theorem q_674 : (Jvm.Cond.methodLink "QuarrelBookLaw" (113 : Nat) ({ cls := "QuarrelBook", name := "all", desc := "()I" } : Jvm.MethodName)) ∈ lw_good := lw_mem 674 (by decide +kernel) rfl
set_option maxRecDepth 100000 in
theorem q_675 : (Jvm.Cond.instanceMethod ({ cls := "QuarrelBook", name := "all", desc := "()I" } : Jvm.MethodName)) ∈ lw_good := lw_mem 675 (by decide +kernel) rfl
set_option maxRecDepth 100000 in
theorem q_676 : (Jvm.Cond.selects "QuarrelBook" ({ cls := "QuarrelBook", name := "all", desc := "()I" } : Jvm.MethodName) ({ cls := "QuarrelBook", name := "all", desc := "()I" } : Jvm.MethodName)) ∈ lw_good := lw_mem 676 (by decide +kernel) rfl
set_option maxRecDepth 100000 in
theorem q_677 : (Jvm.Cond.code ({ cls := "QuarrelBook", name := "all", desc := "()I" } : Jvm.MethodName) prog_1_method_26_code (4 : Nat) (Option.some Jvm.ClassFile.FieldType.int)) ∈ lw_good := lw_mem 677 (by decide +kernel) rfl
set_option maxRecDepth 100000 in
theorem q_678 : (Jvm.Cond.methodLink "QuarrelBookLaw" (118 : Nat) ({ cls := "QuarrelBook", name := "against", desc := "(I)I" } : Jvm.MethodName)) ∈ lw_good := lw_mem 678 (by decide +kernel) rfl
set_option maxRecDepth 100000 in
theorem q_679 : (Jvm.Cond.instanceMethod ({ cls := "QuarrelBook", name := "against", desc := "(I)I" } : Jvm.MethodName)) ∈ lw_good := lw_mem 679 (by decide +kernel) rfl
set_option maxRecDepth 100000 in
theorem q_680 : (Jvm.Cond.selects "QuarrelBook" ({ cls := "QuarrelBook", name := "against", desc := "(I)I" } : Jvm.MethodName) ({ cls := "QuarrelBook", name := "against", desc := "(I)I" } : Jvm.MethodName)) ∈ lw_good := lw_mem 680 (by decide +kernel) rfl
set_option maxRecDepth 100000 in
theorem q_681 : (Jvm.Cond.code ({ cls := "QuarrelBook", name := "against", desc := "(I)I" } : Jvm.MethodName) prog_1_method_27_code (2 : Nat) (Option.some Jvm.ClassFile.FieldType.int)) ∈ lw_good := lw_mem 681 (by decide +kernel) rfl
set_option maxRecDepth 100000 in
theorem q_691 : (Jvm.Cond.methodLink "QuarrelBookLaw" (122 : Nat) ({ cls := "QuarrelBook", name := "nobody", desc := "()I" } : Jvm.MethodName)) ∈ lw_good := lw_mem 691 (by decide +kernel) rfl
set_option maxRecDepth 100000 in
theorem q_692 : (Jvm.Cond.instanceMethod ({ cls := "QuarrelBook", name := "nobody", desc := "()I" } : Jvm.MethodName)) ∈ lw_good := lw_mem 692 (by decide +kernel) rfl
set_option maxRecDepth 100000 in
theorem q_693 : (Jvm.Cond.selects "QuarrelBook" ({ cls := "QuarrelBook", name := "nobody", desc := "()I" } : Jvm.MethodName) ({ cls := "QuarrelBook", name := "nobody", desc := "()I" } : Jvm.MethodName)) ∈ lw_good := lw_mem 693 (by decide +kernel) rfl
set_option maxRecDepth 100000 in
theorem q_694 : (Jvm.Cond.code ({ cls := "QuarrelBook", name := "nobody", desc := "()I" } : Jvm.MethodName) prog_1_method_28_code (5 : Nat) (Option.some Jvm.ClassFile.FieldType.int)) ∈ lw_good := lw_mem 694 (by decide +kernel) rfl
set_option maxRecDepth 100000 in
theorem q_695 : (Jvm.Cond.methodLink "QuarrelBookLaw" (126 : Nat) ({ cls := "QuarrelBook", name := "plain", desc := "(I)I" } : Jvm.MethodName)) ∈ lw_good := lw_mem 695 (by decide +kernel) rfl
set_option maxRecDepth 100000 in
theorem q_696 : (Jvm.Cond.instanceMethod ({ cls := "QuarrelBook", name := "plain", desc := "(I)I" } : Jvm.MethodName)) ∈ lw_good := lw_mem 696 (by decide +kernel) rfl
set_option maxRecDepth 100000 in
theorem q_697 : (Jvm.Cond.selects "QuarrelBook" ({ cls := "QuarrelBook", name := "plain", desc := "(I)I" } : Jvm.MethodName) ({ cls := "QuarrelBook", name := "plain", desc := "(I)I" } : Jvm.MethodName)) ∈ lw_good := lw_mem 697 (by decide +kernel) rfl
set_option maxRecDepth 100000 in
theorem q_698 : (Jvm.Cond.code ({ cls := "QuarrelBook", name := "plain", desc := "(I)I" } : Jvm.MethodName) prog_1_method_29_code (2 : Nat) (Option.some Jvm.ClassFile.FieldType.int)) ∈ lw_good := lw_mem 698 (by decide +kernel) rfl
set_option maxRecDepth 100000 in
theorem q_712 : (Jvm.Cond.methodLink "QuarrelBookLaw" (130 : Nat) ({ cls := "QuarrelBook", name := "changed", desc := "(I)I" } : Jvm.MethodName)) ∈ lw_good := lw_mem 712 (by decide +kernel) rfl
set_option maxRecDepth 100000 in
theorem q_713 : (Jvm.Cond.instanceMethod ({ cls := "QuarrelBook", name := "changed", desc := "(I)I" } : Jvm.MethodName)) ∈ lw_good := lw_mem 713 (by decide +kernel) rfl
set_option maxRecDepth 100000 in
theorem q_714 : (Jvm.Cond.selects "QuarrelBook" ({ cls := "QuarrelBook", name := "changed", desc := "(I)I" } : Jvm.MethodName) ({ cls := "QuarrelBook", name := "changed", desc := "(I)I" } : Jvm.MethodName)) ∈ lw_good := lw_mem 714 (by decide +kernel) rfl
set_option maxRecDepth 100000 in
theorem q_715 : (Jvm.Cond.code ({ cls := "QuarrelBook", name := "changed", desc := "(I)I" } : Jvm.MethodName) prog_1_method_30_code (3 : Nat) (Option.some Jvm.ClassFile.FieldType.int)) ∈ lw_good := lw_mem 715 (by decide +kernel) rfl
set_option maxRecDepth 100000 in
theorem q_732 : (Jvm.Cond.methodLink "QuarrelBookLaw" (134 : Nat) ({ cls := "QuarrelBook", name := "parts", desc := "(II)I" } : Jvm.MethodName)) ∈ lw_good := lw_mem 732 (by decide +kernel) rfl
set_option maxRecDepth 100000 in
theorem q_733 : (Jvm.Cond.instanceMethod ({ cls := "QuarrelBook", name := "parts", desc := "(II)I" } : Jvm.MethodName)) ∈ lw_good := lw_mem 733 (by decide +kernel) rfl
set_option maxRecDepth 100000 in
theorem q_734 : (Jvm.Cond.selects "QuarrelBook" ({ cls := "QuarrelBook", name := "parts", desc := "(II)I" } : Jvm.MethodName) ({ cls := "QuarrelBook", name := "parts", desc := "(II)I" } : Jvm.MethodName)) ∈ lw_good := lw_mem 734 (by decide +kernel) rfl
set_option maxRecDepth 100000 in
theorem q_735 : (Jvm.Cond.code ({ cls := "QuarrelBook", name := "parts", desc := "(II)I" } : Jvm.MethodName) prog_1_method_31_code (4 : Nat) (Option.some Jvm.ClassFile.FieldType.int)) ∈ lw_good := lw_mem 735 (by decide +kernel) rfl
set_option maxRecDepth 100000 in
theorem q_740 : (Jvm.Cond.methodLink "QuarrelBookLaw" (138 : Nat) ({ cls := "QuarrelBook", name := "met", desc := "(II)I" } : Jvm.MethodName)) ∈ lw_good := lw_mem 740 (by decide +kernel) rfl
set_option maxRecDepth 100000 in
theorem q_741 : (Jvm.Cond.instanceMethod ({ cls := "QuarrelBook", name := "met", desc := "(II)I" } : Jvm.MethodName)) ∈ lw_good := lw_mem 741 (by decide +kernel) rfl
set_option maxRecDepth 100000 in
theorem q_742 : (Jvm.Cond.selects "QuarrelBook" ({ cls := "QuarrelBook", name := "met", desc := "(II)I" } : Jvm.MethodName) ({ cls := "QuarrelBook", name := "met", desc := "(II)I" } : Jvm.MethodName)) ∈ lw_good := lw_mem 742 (by decide +kernel) rfl
set_option maxRecDepth 100000 in
theorem q_743 : (Jvm.Cond.code ({ cls := "QuarrelBook", name := "met", desc := "(II)I" } : Jvm.MethodName) prog_1_method_32_code (7 : Nat) (Option.some Jvm.ClassFile.FieldType.int)) ∈ lw_good := lw_mem 743 (by decide +kernel) rfl
set_option maxRecDepth 100000 in
theorem q_748 : (Jvm.Cond.methodLink "QuarrelBookLaw" (142 : Nat) ({ cls := "QuarrelBook", name := "can", desc := "(I)I" } : Jvm.MethodName)) ∈ lw_good := lw_mem 748 (by decide +kernel) rfl
set_option maxRecDepth 100000 in
theorem q_749 : (Jvm.Cond.instanceMethod ({ cls := "QuarrelBook", name := "can", desc := "(I)I" } : Jvm.MethodName)) ∈ lw_good := lw_mem 749 (by decide +kernel) rfl
set_option maxRecDepth 100000 in
theorem q_750 : (Jvm.Cond.selects "QuarrelBook" ({ cls := "QuarrelBook", name := "can", desc := "(I)I" } : Jvm.MethodName) ({ cls := "QuarrelBook", name := "can", desc := "(I)I" } : Jvm.MethodName)) ∈ lw_good := lw_mem 750 (by decide +kernel) rfl
set_option maxRecDepth 100000 in
theorem q_751 : (Jvm.Cond.code ({ cls := "QuarrelBook", name := "can", desc := "(I)I" } : Jvm.MethodName) prog_1_method_33_code (3 : Nat) (Option.some Jvm.ClassFile.FieldType.int)) ∈ lw_good := lw_mem 751 (by decide +kernel) rfl
set_option maxRecDepth 100000 in
theorem q_758 : (Jvm.Cond.methodLink "QuarrelBookLaw" (146 : Nat) ({ cls := "QuarrelBook", name := "reads", desc := "(III)I" } : Jvm.MethodName)) ∈ lw_good := lw_mem 758 (by decide +kernel) rfl
set_option maxRecDepth 100000 in
theorem q_759 : (Jvm.Cond.instanceMethod ({ cls := "QuarrelBook", name := "reads", desc := "(III)I" } : Jvm.MethodName)) ∈ lw_good := lw_mem 759 (by decide +kernel) rfl
set_option maxRecDepth 100000 in
theorem q_760 : (Jvm.Cond.selects "QuarrelBook" ({ cls := "QuarrelBook", name := "reads", desc := "(III)I" } : Jvm.MethodName) ({ cls := "QuarrelBook", name := "reads", desc := "(III)I" } : Jvm.MethodName)) ∈ lw_good := lw_mem 760 (by decide +kernel) rfl
set_option maxRecDepth 100000 in
theorem q_761 : (Jvm.Cond.code ({ cls := "QuarrelBook", name := "reads", desc := "(III)I" } : Jvm.MethodName) prog_1_method_34_code (6 : Nat) (Option.some Jvm.ClassFile.FieldType.int)) ∈ lw_good := lw_mem 761 (by decide +kernel) rfl
set_option maxRecDepth 100000 in
theorem q_762 : (Jvm.Cond.methodLink "QuarrelBookLaw" (150 : Nat) ({ cls := "QuarrelBook", name := "reading", desc := "(I)I" } : Jvm.MethodName)) ∈ lw_good := lw_mem 762 (by decide +kernel) rfl
set_option maxRecDepth 100000 in
theorem q_763 : (Jvm.Cond.instanceMethod ({ cls := "QuarrelBook", name := "reading", desc := "(I)I" } : Jvm.MethodName)) ∈ lw_good := lw_mem 763 (by decide +kernel) rfl
set_option maxRecDepth 100000 in
theorem q_764 : (Jvm.Cond.selects "QuarrelBook" ({ cls := "QuarrelBook", name := "reading", desc := "(I)I" } : Jvm.MethodName) ({ cls := "QuarrelBook", name := "reading", desc := "(I)I" } : Jvm.MethodName)) ∈ lw_good := lw_mem 764 (by decide +kernel) rfl
set_option maxRecDepth 100000 in
theorem q_765 : (Jvm.Cond.code ({ cls := "QuarrelBook", name := "reading", desc := "(I)I" } : Jvm.MethodName) prog_1_method_35_code (5 : Nat) (Option.some Jvm.ClassFile.FieldType.int)) ∈ lw_good := lw_mem 765 (by decide +kernel) rfl
set_option maxRecDepth 100000 in
theorem q_770 : (Jvm.Cond.methodLink "QuarrelBookLaw" (154 : Nat) ({ cls := "QuarrelBook", name := "slip", desc := "(III)I" } : Jvm.MethodName)) ∈ lw_good := lw_mem 770 (by decide +kernel) rfl
set_option maxRecDepth 100000 in
theorem q_771 : (Jvm.Cond.instanceMethod ({ cls := "QuarrelBook", name := "slip", desc := "(III)I" } : Jvm.MethodName)) ∈ lw_good := lw_mem 771 (by decide +kernel) rfl
set_option maxRecDepth 100000 in
theorem q_772 : (Jvm.Cond.selects "QuarrelBook" ({ cls := "QuarrelBook", name := "slip", desc := "(III)I" } : Jvm.MethodName) ({ cls := "QuarrelBook", name := "slip", desc := "(III)I" } : Jvm.MethodName)) ∈ lw_good := lw_mem 772 (by decide +kernel) rfl
set_option maxRecDepth 100000 in
theorem q_773 : (Jvm.Cond.code ({ cls := "QuarrelBook", name := "slip", desc := "(III)I" } : Jvm.MethodName) prog_1_method_36_code (13 : Nat) (Option.some Jvm.ClassFile.FieldType.int)) ∈ lw_good := lw_mem 773 (by decide +kernel) rfl
set_option maxRecDepth 100000 in
theorem q_778 : (Jvm.Cond.methodLink "QuarrelBookLaw" (158 : Nat) ({ cls := "QuarrelBook", name := "runs", desc := "(I)I" } : Jvm.MethodName)) ∈ lw_good := lw_mem 778 (by decide +kernel) rfl
set_option maxRecDepth 100000 in
theorem q_779 : (Jvm.Cond.instanceMethod ({ cls := "QuarrelBook", name := "runs", desc := "(I)I" } : Jvm.MethodName)) ∈ lw_good := lw_mem 779 (by decide +kernel) rfl
set_option maxRecDepth 100000 in
theorem q_780 : (Jvm.Cond.selects "QuarrelBook" ({ cls := "QuarrelBook", name := "runs", desc := "(I)I" } : Jvm.MethodName) ({ cls := "QuarrelBook", name := "runs", desc := "(I)I" } : Jvm.MethodName)) ∈ lw_good := lw_mem 780 (by decide +kernel) rfl
set_option maxRecDepth 100000 in
theorem q_781 : (Jvm.Cond.code ({ cls := "QuarrelBook", name := "runs", desc := "(I)I" } : Jvm.MethodName) prog_1_method_37_code (5 : Nat) (Option.some Jvm.ClassFile.FieldType.int)) ∈ lw_good := lw_mem 781 (by decide +kernel) rfl
set_option maxRecDepth 100000 in
theorem q_789 : (Jvm.Cond.methodLink "QuarrelBookLaw" (162 : Nat) ({ cls := "QuarrelBook", name := "move", desc := "(III)I" } : Jvm.MethodName)) ∈ lw_good := lw_mem 789 (by decide +kernel) rfl
set_option maxRecDepth 100000 in
theorem q_790 : (Jvm.Cond.instanceMethod ({ cls := "QuarrelBook", name := "move", desc := "(III)I" } : Jvm.MethodName)) ∈ lw_good := lw_mem 790 (by decide +kernel) rfl
set_option maxRecDepth 100000 in
theorem q_791 : (Jvm.Cond.selects "QuarrelBook" ({ cls := "QuarrelBook", name := "move", desc := "(III)I" } : Jvm.MethodName) ({ cls := "QuarrelBook", name := "move", desc := "(III)I" } : Jvm.MethodName)) ∈ lw_good := lw_mem 791 (by decide +kernel) rfl
set_option maxRecDepth 100000 in
theorem q_792 : (Jvm.Cond.code ({ cls := "QuarrelBook", name := "move", desc := "(III)I" } : Jvm.MethodName) prog_1_method_38_code (4 : Nat) (Option.some Jvm.ClassFile.FieldType.int)) ∈ lw_good := lw_mem 792 (by decide +kernel) rfl
set_option maxRecDepth 100000 in
theorem q_804 : (Jvm.Cond.methodLink "QuarrelBookLaw" (166 : Nat) ({ cls := "QuarrelBook", name := "moved", desc := "(II)I" } : Jvm.MethodName)) ∈ lw_good := lw_mem 804 (by decide +kernel) rfl
set_option maxRecDepth 100000 in
theorem q_805 : (Jvm.Cond.instanceMethod ({ cls := "QuarrelBook", name := "moved", desc := "(II)I" } : Jvm.MethodName)) ∈ lw_good := lw_mem 805 (by decide +kernel) rfl
set_option maxRecDepth 100000 in
theorem q_806 : (Jvm.Cond.selects "QuarrelBook" ({ cls := "QuarrelBook", name := "moved", desc := "(II)I" } : Jvm.MethodName) ({ cls := "QuarrelBook", name := "moved", desc := "(II)I" } : Jvm.MethodName)) ∈ lw_good := lw_mem 806 (by decide +kernel) rfl
set_option maxRecDepth 100000 in
theorem q_807 : (Jvm.Cond.code ({ cls := "QuarrelBook", name := "moved", desc := "(II)I" } : Jvm.MethodName) prog_1_method_39_code (3 : Nat) (Option.some Jvm.ClassFile.FieldType.int)) ∈ lw_good := lw_mem 807 (by decide +kernel) rfl
set_option maxRecDepth 100000 in
theorem q_812 : (Jvm.Cond.methodLink "QuarrelBookLaw" (170 : Nat) ({ cls := "QuarrelBook", name := "mark", desc := "(II)I" } : Jvm.MethodName)) ∈ lw_good := lw_mem 812 (by decide +kernel) rfl
set_option maxRecDepth 100000 in
theorem q_813 : (Jvm.Cond.instanceMethod ({ cls := "QuarrelBook", name := "mark", desc := "(II)I" } : Jvm.MethodName)) ∈ lw_good := lw_mem 813 (by decide +kernel) rfl
set_option maxRecDepth 100000 in
theorem q_814 : (Jvm.Cond.selects "QuarrelBook" ({ cls := "QuarrelBook", name := "mark", desc := "(II)I" } : Jvm.MethodName) ({ cls := "QuarrelBook", name := "mark", desc := "(II)I" } : Jvm.MethodName)) ∈ lw_good := lw_mem 814 (by decide +kernel) rfl
set_option maxRecDepth 100000 in
theorem q_815 : (Jvm.Cond.code ({ cls := "QuarrelBook", name := "mark", desc := "(II)I" } : Jvm.MethodName) prog_1_method_40_code (3 : Nat) (Option.some Jvm.ClassFile.FieldType.int)) ∈ lw_good := lw_mem 815 (by decide +kernel) rfl
set_option maxRecDepth 100000 in
theorem q_829 : (Jvm.Cond.methodLink "QuarrelBookLaw" (174 : Nat) ({ cls := "QuarrelBook", name := "follow", desc := "()I" } : Jvm.MethodName)) ∈ lw_good := lw_mem 829 (by decide +kernel) rfl
set_option maxRecDepth 100000 in
theorem q_830 : (Jvm.Cond.instanceMethod ({ cls := "QuarrelBook", name := "follow", desc := "()I" } : Jvm.MethodName)) ∈ lw_good := lw_mem 830 (by decide +kernel) rfl
set_option maxRecDepth 100000 in
theorem q_831 : (Jvm.Cond.selects "QuarrelBook" ({ cls := "QuarrelBook", name := "follow", desc := "()I" } : Jvm.MethodName) ({ cls := "QuarrelBook", name := "follow", desc := "()I" } : Jvm.MethodName)) ∈ lw_good := lw_mem 831 (by decide +kernel) rfl
set_option maxRecDepth 100000 in
theorem q_832 : (Jvm.Cond.code ({ cls := "QuarrelBook", name := "follow", desc := "()I" } : Jvm.MethodName) prog_1_method_41_code (1 : Nat) (Option.some Jvm.ClassFile.FieldType.int)) ∈ lw_good := lw_mem 832 (by decide +kernel) rfl
set_option maxRecDepth 100000 in
theorem q_853 : (Jvm.Cond.methodLink "QuarrelBookLaw" (178 : Nat) ({ cls := "QuarrelBook", name := "law", desc := "(II)I" } : Jvm.MethodName)) ∈ lw_good := lw_mem 853 (by decide +kernel) rfl
set_option maxRecDepth 100000 in
theorem q_854 : (Jvm.Cond.instanceMethod ({ cls := "QuarrelBook", name := "law", desc := "(II)I" } : Jvm.MethodName)) ∈ lw_good := lw_mem 854 (by decide +kernel) rfl
set_option maxRecDepth 100000 in
theorem q_855 : (Jvm.Cond.selects "QuarrelBook" ({ cls := "QuarrelBook", name := "law", desc := "(II)I" } : Jvm.MethodName) ({ cls := "QuarrelBook", name := "law", desc := "(II)I" } : Jvm.MethodName)) ∈ lw_good := lw_mem 855 (by decide +kernel) rfl
set_option maxRecDepth 100000 in
theorem q_856 : (Jvm.Cond.code ({ cls := "QuarrelBook", name := "law", desc := "(II)I" } : Jvm.MethodName) prog_1_method_42_code (4 : Nat) (Option.some Jvm.ClassFile.FieldType.int)) ∈ lw_good := lw_mem 856 (by decide +kernel) rfl
set_option maxRecDepth 100000 in
theorem q_872 : (Jvm.Cond.methodLink "QuarrelBookLaw" (182 : Nat) ({ cls := "QuarrelBook", name := "lawsPart", desc := "(II)I" } : Jvm.MethodName)) ∈ lw_good := lw_mem 872 (by decide +kernel) rfl
set_option maxRecDepth 100000 in
theorem q_873 : (Jvm.Cond.instanceMethod ({ cls := "QuarrelBook", name := "lawsPart", desc := "(II)I" } : Jvm.MethodName)) ∈ lw_good := lw_mem 873 (by decide +kernel) rfl
set_option maxRecDepth 100000 in
theorem q_874 : (Jvm.Cond.selects "QuarrelBook" ({ cls := "QuarrelBook", name := "lawsPart", desc := "(II)I" } : Jvm.MethodName) ({ cls := "QuarrelBook", name := "lawsPart", desc := "(II)I" } : Jvm.MethodName)) ∈ lw_good := lw_mem 874 (by decide +kernel) rfl
set_option maxRecDepth 100000 in
theorem q_875 : (Jvm.Cond.code ({ cls := "QuarrelBook", name := "lawsPart", desc := "(II)I" } : Jvm.MethodName) prog_1_method_43_code (6 : Nat) (Option.some Jvm.ClassFile.FieldType.int)) ∈ lw_good := lw_mem 875 (by decide +kernel) rfl
set_option maxRecDepth 100000 in
theorem q_876 : (Jvm.Cond.methodLink "QuarrelBookLaw" (186 : Nat) ({ cls := "QuarrelBook", name := "fresh", desc := "(II)I" } : Jvm.MethodName)) ∈ lw_good := lw_mem 876 (by decide +kernel) rfl
set_option maxRecDepth 100000 in
theorem q_877 : (Jvm.Cond.instanceMethod ({ cls := "QuarrelBook", name := "fresh", desc := "(II)I" } : Jvm.MethodName)) ∈ lw_good := lw_mem 877 (by decide +kernel) rfl
set_option maxRecDepth 100000 in
theorem q_878 : (Jvm.Cond.selects "QuarrelBook" ({ cls := "QuarrelBook", name := "fresh", desc := "(II)I" } : Jvm.MethodName) ({ cls := "QuarrelBook", name := "fresh", desc := "(II)I" } : Jvm.MethodName)) ∈ lw_good := lw_mem 878 (by decide +kernel) rfl
set_option maxRecDepth 100000 in
theorem q_879 : (Jvm.Cond.code ({ cls := "QuarrelBook", name := "fresh", desc := "(II)I" } : Jvm.MethodName) prog_1_method_44_code (3 : Nat) (Option.some Jvm.ClassFile.FieldType.int)) ∈ lw_good := lw_mem 879 (by decide +kernel) rfl
set_option maxRecDepth 100000 in
theorem q_886 : (Jvm.Cond.methodLink "QuarrelBookLaw" (190 : Nat) ({ cls := "QuarrelBook", name := "next", desc := "()I" } : Jvm.MethodName)) ∈ lw_good := lw_mem 886 (by decide +kernel) rfl
set_option maxRecDepth 100000 in
theorem q_887 : (Jvm.Cond.instanceMethod ({ cls := "QuarrelBook", name := "next", desc := "()I" } : Jvm.MethodName)) ∈ lw_good := lw_mem 887 (by decide +kernel) rfl
set_option maxRecDepth 100000 in
theorem q_888 : (Jvm.Cond.selects "QuarrelBook" ({ cls := "QuarrelBook", name := "next", desc := "()I" } : Jvm.MethodName) ({ cls := "QuarrelBook", name := "next", desc := "()I" } : Jvm.MethodName)) ∈ lw_good := lw_mem 888 (by decide +kernel) rfl
set_option maxRecDepth 100000 in
theorem q_889 : (Jvm.Cond.code ({ cls := "QuarrelBook", name := "next", desc := "()I" } : Jvm.MethodName) prog_1_method_45_code (6 : Nat) (Option.some Jvm.ClassFile.FieldType.int)) ∈ lw_good := lw_mem 889 (by decide +kernel) rfl
set_option maxRecDepth 100000 in
theorem q_895 : (Jvm.Cond.methodLink "QuarrelBookLaw" (194 : Nat) ({ cls := "QuarrelBook", name := "asked", desc := "()I" } : Jvm.MethodName)) ∈ lw_good := lw_mem 895 (by decide +kernel) rfl
set_option maxRecDepth 100000 in
theorem q_896 : (Jvm.Cond.instanceMethod ({ cls := "QuarrelBook", name := "asked", desc := "()I" } : Jvm.MethodName)) ∈ lw_good := lw_mem 896 (by decide +kernel) rfl
set_option maxRecDepth 100000 in
theorem q_897 : (Jvm.Cond.selects "QuarrelBook" ({ cls := "QuarrelBook", name := "asked", desc := "()I" } : Jvm.MethodName) ({ cls := "QuarrelBook", name := "asked", desc := "()I" } : Jvm.MethodName)) ∈ lw_good := lw_mem 897 (by decide +kernel) rfl
set_option maxRecDepth 100000 in
theorem q_898 : (Jvm.Cond.code ({ cls := "QuarrelBook", name := "asked", desc := "()I" } : Jvm.MethodName) prog_1_method_46_code (1 : Nat) (Option.some Jvm.ClassFile.FieldType.int)) ∈ lw_good := lw_mem 898 (by decide +kernel) rfl
set_option maxRecDepth 100000 in
theorem q_899 : (Jvm.Cond.methodLink "QuarrelBookLaw" (198 : Nat) ({ cls := "QuarrelBook", name := "upper", desc := "()J" } : Jvm.MethodName)) ∈ lw_good := lw_mem 899 (by decide +kernel) rfl
set_option maxRecDepth 100000 in
theorem q_900 : (Jvm.Cond.instanceMethod ({ cls := "QuarrelBook", name := "upper", desc := "()J" } : Jvm.MethodName)) ∈ lw_good := lw_mem 900 (by decide +kernel) rfl
set_option maxRecDepth 100000 in
theorem q_901 : (Jvm.Cond.selects "QuarrelBook" ({ cls := "QuarrelBook", name := "upper", desc := "()J" } : Jvm.MethodName) ({ cls := "QuarrelBook", name := "upper", desc := "()J" } : Jvm.MethodName)) ∈ lw_good := lw_mem 901 (by decide +kernel) rfl
set_option maxRecDepth 100000 in
theorem q_902 : (Jvm.Cond.code ({ cls := "QuarrelBook", name := "upper", desc := "()J" } : Jvm.MethodName) prog_1_method_47_code (1 : Nat) (Option.some Jvm.ClassFile.FieldType.long)) ∈ lw_good := lw_mem 902 (by decide +kernel) rfl
set_option maxRecDepth 100000 in
theorem q_903 : (Jvm.Cond.methodLink "QuarrelBookLaw" (203 : Nat) ({ cls := "QuarrelBook", name := "lower", desc := "()J" } : Jvm.MethodName)) ∈ lw_good := lw_mem 903 (by decide +kernel) rfl
set_option maxRecDepth 100000 in
theorem q_904 : (Jvm.Cond.instanceMethod ({ cls := "QuarrelBook", name := "lower", desc := "()J" } : Jvm.MethodName)) ∈ lw_good := lw_mem 904 (by decide +kernel) rfl
set_option maxRecDepth 100000 in
theorem q_905 : (Jvm.Cond.selects "QuarrelBook" ({ cls := "QuarrelBook", name := "lower", desc := "()J" } : Jvm.MethodName) ({ cls := "QuarrelBook", name := "lower", desc := "()J" } : Jvm.MethodName)) ∈ lw_good := lw_mem 905 (by decide +kernel) rfl
set_option maxRecDepth 100000 in
theorem q_906 : (Jvm.Cond.code ({ cls := "QuarrelBook", name := "lower", desc := "()J" } : Jvm.MethodName) prog_1_method_48_code (1 : Nat) (Option.some Jvm.ClassFile.FieldType.long)) ∈ lw_good := lw_mem 906 (by decide +kernel) rfl
set_option maxRecDepth 100000 in
theorem q_907 : (Jvm.Cond.methodLink "QuarrelBookLaw" (207 : Nat) ({ cls := "QuarrelBook", name := "count", desc := "(I)I" } : Jvm.MethodName)) ∈ lw_good := lw_mem 907 (by decide +kernel) rfl
set_option maxRecDepth 100000 in
theorem q_908 : (Jvm.Cond.instanceMethod ({ cls := "QuarrelBook", name := "count", desc := "(I)I" } : Jvm.MethodName)) ∈ lw_good := lw_mem 908 (by decide +kernel) rfl
set_option maxRecDepth 100000 in
theorem q_909 : (Jvm.Cond.selects "QuarrelBook" ({ cls := "QuarrelBook", name := "count", desc := "(I)I" } : Jvm.MethodName) ({ cls := "QuarrelBook", name := "count", desc := "(I)I" } : Jvm.MethodName)) ∈ lw_good := lw_mem 909 (by decide +kernel) rfl
set_option maxRecDepth 100000 in
theorem q_910 : (Jvm.Cond.code ({ cls := "QuarrelBook", name := "count", desc := "(I)I" } : Jvm.MethodName) prog_1_method_49_code (2 : Nat) (Option.some Jvm.ClassFile.FieldType.int)) ∈ lw_good := lw_mem 910 (by decide +kernel) rfl
set_option maxRecDepth 100000 in
theorem q_927 : (Jvm.Cond.methodLink "QuarrelBookLaw" (211 : Nat) ({ cls := "QuarrelBook", name := "finding", desc := "()I" } : Jvm.MethodName)) ∈ lw_good := lw_mem 927 (by decide +kernel) rfl
set_option maxRecDepth 100000 in
theorem q_928 : (Jvm.Cond.instanceMethod ({ cls := "QuarrelBook", name := "finding", desc := "()I" } : Jvm.MethodName)) ∈ lw_good := lw_mem 928 (by decide +kernel) rfl
set_option maxRecDepth 100000 in
theorem q_929 : (Jvm.Cond.selects "QuarrelBook" ({ cls := "QuarrelBook", name := "finding", desc := "()I" } : Jvm.MethodName) ({ cls := "QuarrelBook", name := "finding", desc := "()I" } : Jvm.MethodName)) ∈ lw_good := lw_mem 929 (by decide +kernel) rfl
set_option maxRecDepth 100000 in
theorem q_930 : (Jvm.Cond.code ({ cls := "QuarrelBook", name := "finding", desc := "()I" } : Jvm.MethodName) prog_1_method_50_code (1 : Nat) (Option.some Jvm.ClassFile.FieldType.int)) ∈ lw_good := lw_mem 930 (by decide +kernel) rfl
set_option maxRecDepth 100000 in
theorem q_931 : (Jvm.Cond.methodLink "QuarrelBookLaw" (215 : Nat) ({ cls := "QuarrelBook", name := "findings", desc := "(I)I" } : Jvm.MethodName)) ∈ lw_good := lw_mem 931 (by decide +kernel) rfl
set_option maxRecDepth 100000 in
theorem q_932 : (Jvm.Cond.instanceMethod ({ cls := "QuarrelBook", name := "findings", desc := "(I)I" } : Jvm.MethodName)) ∈ lw_good := lw_mem 932 (by decide +kernel) rfl
set_option maxRecDepth 100000 in
theorem q_933 : (Jvm.Cond.selects "QuarrelBook" ({ cls := "QuarrelBook", name := "findings", desc := "(I)I" } : Jvm.MethodName) ({ cls := "QuarrelBook", name := "findings", desc := "(I)I" } : Jvm.MethodName)) ∈ lw_good := lw_mem 933 (by decide +kernel) rfl
set_option maxRecDepth 100000 in
theorem q_934 : (Jvm.Cond.code ({ cls := "QuarrelBook", name := "findings", desc := "(I)I" } : Jvm.MethodName) prog_1_method_51_code (2 : Nat) (Option.some Jvm.ClassFile.FieldType.int)) ∈ lw_good := lw_mem 934 (by decide +kernel) rfl
set_option maxRecDepth 100000 in
theorem q_935 : (Jvm.Cond.methodLink "QuarrelBookLaw" (219 : Nat) ({ cls := "QuarrelBook", name := "digest", desc := "()J" } : Jvm.MethodName)) ∈ lw_good := lw_mem 935 (by decide +kernel) rfl
set_option maxRecDepth 100000 in
theorem q_936 : (Jvm.Cond.instanceMethod ({ cls := "QuarrelBook", name := "digest", desc := "()J" } : Jvm.MethodName)) ∈ lw_good := lw_mem 936 (by decide +kernel) rfl
set_option maxRecDepth 100000 in
theorem q_937 : (Jvm.Cond.selects "QuarrelBook" ({ cls := "QuarrelBook", name := "digest", desc := "()J" } : Jvm.MethodName) ({ cls := "QuarrelBook", name := "digest", desc := "()J" } : Jvm.MethodName)) ∈ lw_good := lw_mem 937 (by decide +kernel) rfl
set_option maxRecDepth 100000 in
theorem q_938 : (Jvm.Cond.code ({ cls := "QuarrelBook", name := "digest", desc := "()J" } : Jvm.MethodName) prog_1_method_52_code (4 : Nat) (Option.some Jvm.ClassFile.FieldType.long)) ∈ lw_good := lw_mem 938 (by decide +kernel) rfl
set_option maxRecDepth 100000 in
theorem q_1095 : (Jvm.Cond.methodLink "QuarrelBookLaw" (17 : Nat) ({ cls := "QuarrelBookModel", name := "row", desc := "(II)I" } : Jvm.MethodName)) ∈ lw_good := lw_mem 1095 (by decide +kernel) rfl
set_option maxRecDepth 100000 in
theorem q_1096 : (Jvm.Cond.instanceMethod ({ cls := "QuarrelBookModel", name := "row", desc := "(II)I" } : Jvm.MethodName)) ∈ lw_good := lw_mem 1096 (by decide +kernel) rfl
set_option maxRecDepth 100000 in
theorem q_1097 : (Jvm.Cond.selects "QuarrelBookModel" ({ cls := "QuarrelBookModel", name := "row", desc := "(II)I" } : Jvm.MethodName) ({ cls := "QuarrelBookModel", name := "row", desc := "(II)I" } : Jvm.MethodName)) ∈ lw_good := lw_mem 1097 (by decide +kernel) rfl
set_option maxRecDepth 100000 in
theorem q_1098 : (Jvm.Cond.code ({ cls := "QuarrelBookModel", name := "row", desc := "(II)I" } : Jvm.MethodName) prog_14_method_12_code (4 : Nat) (Option.some Jvm.ClassFile.FieldType.int)) ∈ lw_good := lw_mem 1098 (by decide +kernel) rfl
set_option maxRecDepth 100000 in
theorem q_1109 : (Jvm.Cond.methodLink "QuarrelBookLaw" (22 : Nat) ({ cls := "QuarrelBookModel", name := "lay", desc := "(III)I" } : Jvm.MethodName)) ∈ lw_good := lw_mem 1109 (by decide +kernel) rfl
set_option maxRecDepth 100000 in
theorem q_1110 : (Jvm.Cond.instanceMethod ({ cls := "QuarrelBookModel", name := "lay", desc := "(III)I" } : Jvm.MethodName)) ∈ lw_good := lw_mem 1110 (by decide +kernel) rfl
set_option maxRecDepth 100000 in
theorem q_1111 : (Jvm.Cond.selects "QuarrelBookModel" ({ cls := "QuarrelBookModel", name := "lay", desc := "(III)I" } : Jvm.MethodName) ({ cls := "QuarrelBookModel", name := "lay", desc := "(III)I" } : Jvm.MethodName)) ∈ lw_good := lw_mem 1111 (by decide +kernel) rfl
set_option maxRecDepth 100000 in
theorem q_1112 : (Jvm.Cond.code ({ cls := "QuarrelBookModel", name := "lay", desc := "(III)I" } : Jvm.MethodName) prog_14_method_13_code (5 : Nat) (Option.some Jvm.ClassFile.FieldType.int)) ∈ lw_good := lw_mem 1112 (by decide +kernel) rfl
set_option maxRecDepth 100000 in
theorem q_1121 : (Jvm.Cond.methodLink "QuarrelBookLaw" (27 : Nat) ({ cls := "QuarrelBookModel", name := "tear", desc := "(I)I" } : Jvm.MethodName)) ∈ lw_good := lw_mem 1121 (by decide +kernel) rfl
set_option maxRecDepth 100000 in
theorem q_1122 : (Jvm.Cond.instanceMethod ({ cls := "QuarrelBookModel", name := "tear", desc := "(I)I" } : Jvm.MethodName)) ∈ lw_good := lw_mem 1122 (by decide +kernel) rfl
set_option maxRecDepth 100000 in
theorem q_1123 : (Jvm.Cond.selects "QuarrelBookModel" ({ cls := "QuarrelBookModel", name := "tear", desc := "(I)I" } : Jvm.MethodName) ({ cls := "QuarrelBookModel", name := "tear", desc := "(I)I" } : Jvm.MethodName)) ∈ lw_good := lw_mem 1123 (by decide +kernel) rfl
set_option maxRecDepth 100000 in
theorem q_1124 : (Jvm.Cond.code ({ cls := "QuarrelBookModel", name := "tear", desc := "(I)I" } : Jvm.MethodName) prog_14_method_14_code (3 : Nat) (Option.some Jvm.ClassFile.FieldType.int)) ∈ lw_good := lw_mem 1124 (by decide +kernel) rfl
set_option maxRecDepth 100000 in
theorem q_1125 : (Jvm.Cond.methodLink "QuarrelBookLaw" (32 : Nat) ({ cls := "QuarrelBookModel", name := "copy", desc := "(IIIII)I" } : Jvm.MethodName)) ∈ lw_good := lw_mem 1125 (by decide +kernel) rfl
set_option maxRecDepth 100000 in
theorem q_1126 : (Jvm.Cond.instanceMethod ({ cls := "QuarrelBookModel", name := "copy", desc := "(IIIII)I" } : Jvm.MethodName)) ∈ lw_good := lw_mem 1126 (by decide +kernel) rfl
set_option maxRecDepth 100000 in
theorem q_1127 : (Jvm.Cond.selects "QuarrelBookModel" ({ cls := "QuarrelBookModel", name := "copy", desc := "(IIIII)I" } : Jvm.MethodName) ({ cls := "QuarrelBookModel", name := "copy", desc := "(IIIII)I" } : Jvm.MethodName)) ∈ lw_good := lw_mem 1127 (by decide +kernel) rfl
set_option maxRecDepth 100000 in
theorem q_1128 : (Jvm.Cond.code ({ cls := "QuarrelBookModel", name := "copy", desc := "(IIIII)I" } : Jvm.MethodName) prog_14_method_15_code (7 : Nat) (Option.some Jvm.ClassFile.FieldType.int)) ∈ lw_good := lw_mem 1128 (by decide +kernel) rfl
set_option maxRecDepth 100000 in
theorem q_1129 : (Jvm.Cond.methodLink "QuarrelBookLaw" (36 : Nat) ({ cls := "QuarrelBookModel", name := "mean", desc := "(I)I" } : Jvm.MethodName)) ∈ lw_good := lw_mem 1129 (by decide +kernel) rfl
set_option maxRecDepth 100000 in
theorem q_1130 : (Jvm.Cond.instanceMethod ({ cls := "QuarrelBookModel", name := "mean", desc := "(I)I" } : Jvm.MethodName)) ∈ lw_good := lw_mem 1130 (by decide +kernel) rfl
set_option maxRecDepth 100000 in
theorem q_1131 : (Jvm.Cond.selects "QuarrelBookModel" ({ cls := "QuarrelBookModel", name := "mean", desc := "(I)I" } : Jvm.MethodName) ({ cls := "QuarrelBookModel", name := "mean", desc := "(I)I" } : Jvm.MethodName)) ∈ lw_good := lw_mem 1131 (by decide +kernel) rfl
set_option maxRecDepth 100000 in
theorem q_1132 : (Jvm.Cond.code ({ cls := "QuarrelBookModel", name := "mean", desc := "(I)I" } : Jvm.MethodName) prog_14_method_16_code (6 : Nat) (Option.some Jvm.ClassFile.FieldType.int)) ∈ lw_good := lw_mem 1132 (by decide +kernel) rfl
set_option maxRecDepth 100000 in
theorem q_1137 : (Jvm.Cond.methodLink "QuarrelBookLaw" (40 : Nat) ({ cls := "QuarrelBookModel", name := "text", desc := "(II)I" } : Jvm.MethodName)) ∈ lw_good := lw_mem 1137 (by decide +kernel) rfl
set_option maxRecDepth 100000 in
theorem q_1138 : (Jvm.Cond.instanceMethod ({ cls := "QuarrelBookModel", name := "text", desc := "(II)I" } : Jvm.MethodName)) ∈ lw_good := lw_mem 1138 (by decide +kernel) rfl
set_option maxRecDepth 100000 in
theorem q_1139 : (Jvm.Cond.selects "QuarrelBookModel" ({ cls := "QuarrelBookModel", name := "text", desc := "(II)I" } : Jvm.MethodName) ({ cls := "QuarrelBookModel", name := "text", desc := "(II)I" } : Jvm.MethodName)) ∈ lw_good := lw_mem 1139 (by decide +kernel) rfl
set_option maxRecDepth 100000 in
theorem q_1140 : (Jvm.Cond.code ({ cls := "QuarrelBookModel", name := "text", desc := "(II)I" } : Jvm.MethodName) prog_14_method_17_code (4 : Nat) (Option.some Jvm.ClassFile.FieldType.int)) ∈ lw_good := lw_mem 1140 (by decide +kernel) rfl
set_option maxRecDepth 100000 in
theorem q_1144 : (Jvm.Cond.methodLink "QuarrelBookLaw" (44 : Nat) ({ cls := "QuarrelBookModel", name := "put", desc := "(III)I" } : Jvm.MethodName)) ∈ lw_good := lw_mem 1144 (by decide +kernel) rfl
set_option maxRecDepth 100000 in
theorem q_1145 : (Jvm.Cond.instanceMethod ({ cls := "QuarrelBookModel", name := "put", desc := "(III)I" } : Jvm.MethodName)) ∈ lw_good := lw_mem 1145 (by decide +kernel) rfl
set_option maxRecDepth 100000 in
theorem q_1146 : (Jvm.Cond.selects "QuarrelBookModel" ({ cls := "QuarrelBookModel", name := "put", desc := "(III)I" } : Jvm.MethodName) ({ cls := "QuarrelBookModel", name := "put", desc := "(III)I" } : Jvm.MethodName)) ∈ lw_good := lw_mem 1146 (by decide +kernel) rfl
set_option maxRecDepth 100000 in
theorem q_1147 : (Jvm.Cond.code ({ cls := "QuarrelBookModel", name := "put", desc := "(III)I" } : Jvm.MethodName) prog_14_method_18_code (6 : Nat) (Option.some Jvm.ClassFile.FieldType.int)) ∈ lw_good := lw_mem 1147 (by decide +kernel) rfl
set_option maxRecDepth 100000 in
theorem q_1152 : (Jvm.Cond.methodLink "QuarrelBookLaw" (48 : Nat) ({ cls := "QuarrelBookModel", name := "instance", desc := "(I)I" } : Jvm.MethodName)) ∈ lw_good := lw_mem 1152 (by decide +kernel) rfl
set_option maxRecDepth 100000 in
theorem q_1153 : (Jvm.Cond.instanceMethod ({ cls := "QuarrelBookModel", name := "instance", desc := "(I)I" } : Jvm.MethodName)) ∈ lw_good := lw_mem 1153 (by decide +kernel) rfl
set_option maxRecDepth 100000 in
theorem q_1154 : (Jvm.Cond.selects "QuarrelBookModel" ({ cls := "QuarrelBookModel", name := "instance", desc := "(I)I" } : Jvm.MethodName) ({ cls := "QuarrelBookModel", name := "instance", desc := "(I)I" } : Jvm.MethodName)) ∈ lw_good := lw_mem 1154 (by decide +kernel) rfl
set_option maxRecDepth 100000 in
theorem q_1155 : (Jvm.Cond.code ({ cls := "QuarrelBookModel", name := "instance", desc := "(I)I" } : Jvm.MethodName) prog_14_method_24_code (2 : Nat) (Option.some Jvm.ClassFile.FieldType.int)) ∈ lw_good := lw_mem 1155 (by decide +kernel) rfl
set_option maxRecDepth 100000 in
theorem q_1159 : (Jvm.Cond.methodLink "QuarrelBookLaw" (52 : Nat) ({ cls := "QuarrelBookModel", name := "master", desc := "(III)I" } : Jvm.MethodName)) ∈ lw_good := lw_mem 1159 (by decide +kernel) rfl
set_option maxRecDepth 100000 in
theorem q_1160 : (Jvm.Cond.instanceMethod ({ cls := "QuarrelBookModel", name := "master", desc := "(III)I" } : Jvm.MethodName)) ∈ lw_good := lw_mem 1160 (by decide +kernel) rfl
set_option maxRecDepth 100000 in
theorem q_1161 : (Jvm.Cond.selects "QuarrelBookModel" ({ cls := "QuarrelBookModel", name := "master", desc := "(III)I" } : Jvm.MethodName) ({ cls := "QuarrelBookModel", name := "master", desc := "(III)I" } : Jvm.MethodName)) ∈ lw_good := lw_mem 1161 (by decide +kernel) rfl
set_option maxRecDepth 100000 in
theorem q_1162 : (Jvm.Cond.code ({ cls := "QuarrelBookModel", name := "master", desc := "(III)I" } : Jvm.MethodName) prog_14_method_25_code (4 : Nat) (Option.some Jvm.ClassFile.FieldType.int)) ∈ lw_good := lw_mem 1162 (by decide +kernel) rfl
set_option maxRecDepth 100000 in
theorem q_1167 : (Jvm.Cond.methodLink "QuarrelBookLaw" (56 : Nat) ({ cls := "QuarrelBookModel", name := "saying", desc := "(IIIII)I" } : Jvm.MethodName)) ∈ lw_good := lw_mem 1167 (by decide +kernel) rfl
set_option maxRecDepth 100000 in
theorem q_1168 : (Jvm.Cond.instanceMethod ({ cls := "QuarrelBookModel", name := "saying", desc := "(IIIII)I" } : Jvm.MethodName)) ∈ lw_good := lw_mem 1168 (by decide +kernel) rfl
set_option maxRecDepth 100000 in
theorem q_1169 : (Jvm.Cond.selects "QuarrelBookModel" ({ cls := "QuarrelBookModel", name := "saying", desc := "(IIIII)I" } : Jvm.MethodName) ({ cls := "QuarrelBookModel", name := "saying", desc := "(IIIII)I" } : Jvm.MethodName)) ∈ lw_good := lw_mem 1169 (by decide +kernel) rfl
set_option maxRecDepth 100000 in
theorem q_1170 : (Jvm.Cond.code ({ cls := "QuarrelBookModel", name := "saying", desc := "(IIIII)I" } : Jvm.MethodName) prog_14_method_29_code (6 : Nat) (Option.some Jvm.ClassFile.FieldType.int)) ∈ lw_good := lw_mem 1170 (by decide +kernel) rfl
set_option maxRecDepth 100000 in
theorem q_1190 : (Jvm.Cond.methodLink "QuarrelBookLaw" (60 : Nat) ({ cls := "QuarrelBookModel", name := "sayings", desc := "(III)I" } : Jvm.MethodName)) ∈ lw_good := lw_mem 1190 (by decide +kernel) rfl
set_option maxRecDepth 100000 in
theorem q_1191 : (Jvm.Cond.instanceMethod ({ cls := "QuarrelBookModel", name := "sayings", desc := "(III)I" } : Jvm.MethodName)) ∈ lw_good := lw_mem 1191 (by decide +kernel) rfl
set_option maxRecDepth 100000 in
theorem q_1192 : (Jvm.Cond.selects "QuarrelBookModel" ({ cls := "QuarrelBookModel", name := "sayings", desc := "(III)I" } : Jvm.MethodName) ({ cls := "QuarrelBookModel", name := "sayings", desc := "(III)I" } : Jvm.MethodName)) ∈ lw_good := lw_mem 1192 (by decide +kernel) rfl
set_option maxRecDepth 100000 in
theorem q_1193 : (Jvm.Cond.code ({ cls := "QuarrelBookModel", name := "sayings", desc := "(III)I" } : Jvm.MethodName) prog_14_method_30_code (7 : Nat) (Option.some Jvm.ClassFile.FieldType.int)) ∈ lw_good := lw_mem 1193 (by decide +kernel) rfl
set_option maxRecDepth 100000 in
theorem q_1194 : (Jvm.Cond.methodLink "QuarrelBookLaw" (64 : Nat) ({ cls := "QuarrelBookModel", name := "told", desc := "(II)I" } : Jvm.MethodName)) ∈ lw_good := lw_mem 1194 (by decide +kernel) rfl
set_option maxRecDepth 100000 in
theorem q_1195 : (Jvm.Cond.instanceMethod ({ cls := "QuarrelBookModel", name := "told", desc := "(II)I" } : Jvm.MethodName)) ∈ lw_good := lw_mem 1195 (by decide +kernel) rfl
set_option maxRecDepth 100000 in
theorem q_1196 : (Jvm.Cond.selects "QuarrelBookModel" ({ cls := "QuarrelBookModel", name := "told", desc := "(II)I" } : Jvm.MethodName) ({ cls := "QuarrelBookModel", name := "told", desc := "(II)I" } : Jvm.MethodName)) ∈ lw_good := lw_mem 1196 (by decide +kernel) rfl
set_option maxRecDepth 100000 in
theorem q_1197 : (Jvm.Cond.code ({ cls := "QuarrelBookModel", name := "told", desc := "(II)I" } : Jvm.MethodName) prog_14_method_32_code (3 : Nat) (Option.some Jvm.ClassFile.FieldType.int)) ∈ lw_good := lw_mem 1197 (by decide +kernel) rfl
set_option maxRecDepth 100000 in
theorem q_1206 : (Jvm.Cond.methodLink "QuarrelBookLaw" (68 : Nat) ({ cls := "QuarrelBookModel", name := "traits", desc := "(I)I" } : Jvm.MethodName)) ∈ lw_good := lw_mem 1206 (by decide +kernel) rfl
set_option maxRecDepth 100000 in
theorem q_1207 : (Jvm.Cond.instanceMethod ({ cls := "QuarrelBookModel", name := "traits", desc := "(I)I" } : Jvm.MethodName)) ∈ lw_good := lw_mem 1207 (by decide +kernel) rfl
set_option maxRecDepth 100000 in
theorem q_1208 : (Jvm.Cond.selects "QuarrelBookModel" ({ cls := "QuarrelBookModel", name := "traits", desc := "(I)I" } : Jvm.MethodName) ({ cls := "QuarrelBookModel", name := "traits", desc := "(I)I" } : Jvm.MethodName)) ∈ lw_good := lw_mem 1208 (by decide +kernel) rfl
set_option maxRecDepth 100000 in
theorem q_1209 : (Jvm.Cond.code ({ cls := "QuarrelBookModel", name := "traits", desc := "(I)I" } : Jvm.MethodName) prog_14_method_33_code (2 : Nat) (Option.some Jvm.ClassFile.FieldType.int)) ∈ lw_good := lw_mem 1209 (by decide +kernel) rfl
set_option maxRecDepth 100000 in
theorem q_1210 : (Jvm.Cond.methodLink "QuarrelBookLaw" (72 : Nat) ({ cls := "QuarrelBookModel", name := "life", desc := "(II)I" } : Jvm.MethodName)) ∈ lw_good := lw_mem 1210 (by decide +kernel) rfl
set_option maxRecDepth 100000 in
theorem q_1211 : (Jvm.Cond.instanceMethod ({ cls := "QuarrelBookModel", name := "life", desc := "(II)I" } : Jvm.MethodName)) ∈ lw_good := lw_mem 1211 (by decide +kernel) rfl
set_option maxRecDepth 100000 in
theorem q_1212 : (Jvm.Cond.selects "QuarrelBookModel" ({ cls := "QuarrelBookModel", name := "life", desc := "(II)I" } : Jvm.MethodName) ({ cls := "QuarrelBookModel", name := "life", desc := "(II)I" } : Jvm.MethodName)) ∈ lw_good := lw_mem 1212 (by decide +kernel) rfl
set_option maxRecDepth 100000 in
theorem q_1213 : (Jvm.Cond.code ({ cls := "QuarrelBookModel", name := "life", desc := "(II)I" } : Jvm.MethodName) prog_14_method_36_code (3 : Nat) (Option.some Jvm.ClassFile.FieldType.int)) ∈ lw_good := lw_mem 1213 (by decide +kernel) rfl
set_option maxRecDepth 100000 in
theorem q_1222 : (Jvm.Cond.methodLink "QuarrelBookLaw" (76 : Nat) ({ cls := "QuarrelBookModel", name := "fault", desc := "(I)I" } : Jvm.MethodName)) ∈ lw_good := lw_mem 1222 (by decide +kernel) rfl
set_option maxRecDepth 100000 in
theorem q_1237 : (Jvm.Cond.methodLink "QuarrelBookLaw" (80 : Nat) ({ cls := "QuarrelBookModel", name := "rule", desc := "(I)I" } : Jvm.MethodName)) ∈ lw_good := lw_mem 1237 (by decide +kernel) rfl
set_option maxRecDepth 100000 in
theorem q_1238 : (Jvm.Cond.instanceMethod ({ cls := "QuarrelBookModel", name := "rule", desc := "(I)I" } : Jvm.MethodName)) ∈ lw_good := lw_mem 1238 (by decide +kernel) rfl
set_option maxRecDepth 100000 in
theorem q_1239 : (Jvm.Cond.selects "QuarrelBookModel" ({ cls := "QuarrelBookModel", name := "rule", desc := "(I)I" } : Jvm.MethodName) ({ cls := "QuarrelBookModel", name := "rule", desc := "(I)I" } : Jvm.MethodName)) ∈ lw_good := lw_mem 1239 (by decide +kernel) rfl
set_option maxRecDepth 100000 in
theorem q_1240 : (Jvm.Cond.code ({ cls := "QuarrelBookModel", name := "rule", desc := "(I)I" } : Jvm.MethodName) prog_14_method_41_code (3 : Nat) (Option.some Jvm.ClassFile.FieldType.int)) ∈ lw_good := lw_mem 1240 (by decide +kernel) rfl
set_option maxRecDepth 100000 in
theorem q_1242 : (Jvm.Cond.methodLink "QuarrelBookLaw" (84 : Nat) ({ cls := "QuarrelBookModel", name := "answers", desc := "(II)I" } : Jvm.MethodName)) ∈ lw_good := lw_mem 1242 (by decide +kernel) rfl
set_option maxRecDepth 100000 in
theorem q_1243 : (Jvm.Cond.instanceMethod ({ cls := "QuarrelBookModel", name := "answers", desc := "(II)I" } : Jvm.MethodName)) ∈ lw_good := lw_mem 1243 (by decide +kernel) rfl
set_option maxRecDepth 100000 in
theorem q_1244 : (Jvm.Cond.selects "QuarrelBookModel" ({ cls := "QuarrelBookModel", name := "answers", desc := "(II)I" } : Jvm.MethodName) ({ cls := "QuarrelBookModel", name := "answers", desc := "(II)I" } : Jvm.MethodName)) ∈ lw_good := lw_mem 1244 (by decide +kernel) rfl
set_option maxRecDepth 100000 in
theorem q_1245 : (Jvm.Cond.code ({ cls := "QuarrelBookModel", name := "answers", desc := "(II)I" } : Jvm.MethodName) prog_14_method_45_code (3 : Nat) (Option.some Jvm.ClassFile.FieldType.int)) ∈ lw_good := lw_mem 1245 (by decide +kernel) rfl
set_option maxRecDepth 100000 in
theorem q_1258 : (Jvm.Cond.methodLink "QuarrelBookLaw" (88 : Nat) ({ cls := "QuarrelBookModel", name := "fits", desc := "(II)I" } : Jvm.MethodName)) ∈ lw_good := lw_mem 1258 (by decide +kernel) rfl
set_option maxRecDepth 100000 in
theorem q_1259 : (Jvm.Cond.instanceMethod ({ cls := "QuarrelBookModel", name := "fits", desc := "(II)I" } : Jvm.MethodName)) ∈ lw_good := lw_mem 1259 (by decide +kernel) rfl
set_option maxRecDepth 100000 in
theorem q_1260 : (Jvm.Cond.selects "QuarrelBookModel" ({ cls := "QuarrelBookModel", name := "fits", desc := "(II)I" } : Jvm.MethodName) ({ cls := "QuarrelBookModel", name := "fits", desc := "(II)I" } : Jvm.MethodName)) ∈ lw_good := lw_mem 1260 (by decide +kernel) rfl
set_option maxRecDepth 100000 in
theorem q_1261 : (Jvm.Cond.code ({ cls := "QuarrelBookModel", name := "fits", desc := "(II)I" } : Jvm.MethodName) prog_14_method_47_code (3 : Nat) (Option.some Jvm.ClassFile.FieldType.int)) ∈ lw_good := lw_mem 1261 (by decide +kernel) rfl
set_option maxRecDepth 100000 in
theorem q_1266 : (Jvm.Cond.methodLink "QuarrelBookLaw" (92 : Nat) ({ cls := "QuarrelBookModel", name := "prices", desc := "(III)I" } : Jvm.MethodName)) ∈ lw_good := lw_mem 1266 (by decide +kernel) rfl
set_option maxRecDepth 100000 in
theorem q_1267 : (Jvm.Cond.instanceMethod ({ cls := "QuarrelBookModel", name := "prices", desc := "(III)I" } : Jvm.MethodName)) ∈ lw_good := lw_mem 1267 (by decide +kernel) rfl
set_option maxRecDepth 100000 in
theorem q_1268 : (Jvm.Cond.selects "QuarrelBookModel" ({ cls := "QuarrelBookModel", name := "prices", desc := "(III)I" } : Jvm.MethodName) ({ cls := "QuarrelBookModel", name := "prices", desc := "(III)I" } : Jvm.MethodName)) ∈ lw_good := lw_mem 1268 (by decide +kernel) rfl
set_option maxRecDepth 100000 in
theorem q_1269 : (Jvm.Cond.code ({ cls := "QuarrelBookModel", name := "prices", desc := "(III)I" } : Jvm.MethodName) prog_14_method_49_code (4 : Nat) (Option.some Jvm.ClassFile.FieldType.int)) ∈ lw_good := lw_mem 1269 (by decide +kernel) rfl
set_option maxRecDepth 100000 in
theorem q_1273 : (Jvm.Cond.methodLink "QuarrelBookLaw" (96 : Nat) ({ cls := "QuarrelBookModel", name := "costs", desc := "(II)I" } : Jvm.MethodName)) ∈ lw_good := lw_mem 1273 (by decide +kernel) rfl
set_option maxRecDepth 100000 in
theorem q_1274 : (Jvm.Cond.instanceMethod ({ cls := "QuarrelBookModel", name := "costs", desc := "(II)I" } : Jvm.MethodName)) ∈ lw_good := lw_mem 1274 (by decide +kernel) rfl
set_option maxRecDepth 100000 in
theorem q_1275 : (Jvm.Cond.selects "QuarrelBookModel" ({ cls := "QuarrelBookModel", name := "costs", desc := "(II)I" } : Jvm.MethodName) ({ cls := "QuarrelBookModel", name := "costs", desc := "(II)I" } : Jvm.MethodName)) ∈ lw_good := lw_mem 1275 (by decide +kernel) rfl
set_option maxRecDepth 100000 in
theorem q_1276 : (Jvm.Cond.code ({ cls := "QuarrelBookModel", name := "costs", desc := "(II)I" } : Jvm.MethodName) prog_14_method_51_code (3 : Nat) (Option.some Jvm.ClassFile.FieldType.int)) ∈ lw_good := lw_mem 1276 (by decide +kernel) rfl
set_option maxRecDepth 100000 in
theorem q_1281 : (Jvm.Cond.methodLink "QuarrelBookLaw" (100 : Nat) ({ cls := "QuarrelBookModel", name := "settle", desc := "(I)I" } : Jvm.MethodName)) ∈ lw_good := lw_mem 1281 (by decide +kernel) rfl
set_option maxRecDepth 100000 in
theorem q_1282 : (Jvm.Cond.instanceMethod ({ cls := "QuarrelBookModel", name := "settle", desc := "(I)I" } : Jvm.MethodName)) ∈ lw_good := lw_mem 1282 (by decide +kernel) rfl
set_option maxRecDepth 100000 in
theorem q_1283 : (Jvm.Cond.selects "QuarrelBookModel" ({ cls := "QuarrelBookModel", name := "settle", desc := "(I)I" } : Jvm.MethodName) ({ cls := "QuarrelBookModel", name := "settle", desc := "(I)I" } : Jvm.MethodName)) ∈ lw_good := lw_mem 1283 (by decide +kernel) rfl
set_option maxRecDepth 100000 in
theorem q_1284 : (Jvm.Cond.code ({ cls := "QuarrelBookModel", name := "settle", desc := "(I)I" } : Jvm.MethodName) prog_14_method_56_code (2 : Nat) (Option.some Jvm.ClassFile.FieldType.int)) ∈ lw_good := lw_mem 1284 (by decide +kernel) rfl
set_option maxRecDepth 100000 in
theorem q_1302 : (Jvm.Cond.methodLink "QuarrelBookLaw" (104 : Nat) ({ cls := "QuarrelBookModel", name := "second", desc := "(I)I" } : Jvm.MethodName)) ∈ lw_good := lw_mem 1302 (by decide +kernel) rfl
set_option maxRecDepth 100000 in
theorem q_1303 : (Jvm.Cond.instanceMethod ({ cls := "QuarrelBookModel", name := "second", desc := "(I)I" } : Jvm.MethodName)) ∈ lw_good := lw_mem 1303 (by decide +kernel) rfl
set_option maxRecDepth 100000 in
theorem q_1304 : (Jvm.Cond.selects "QuarrelBookModel" ({ cls := "QuarrelBookModel", name := "second", desc := "(I)I" } : Jvm.MethodName) ({ cls := "QuarrelBookModel", name := "second", desc := "(I)I" } : Jvm.MethodName)) ∈ lw_good := lw_mem 1304 (by decide +kernel) rfl
set_option maxRecDepth 100000 in
theorem q_1305 : (Jvm.Cond.code ({ cls := "QuarrelBookModel", name := "second", desc := "(I)I" } : Jvm.MethodName) prog_14_method_57_code (2 : Nat) (Option.some Jvm.ClassFile.FieldType.int)) ∈ lw_good := lw_mem 1305 (by decide +kernel) rfl
set_option maxRecDepth 100000 in
theorem q_1306 : (Jvm.Cond.methodLink "QuarrelBookLaw" (108 : Nat) ({ cls := "QuarrelBookModel", name := "cheap", desc := "(I)I" } : Jvm.MethodName)) ∈ lw_good := lw_mem 1306 (by decide +kernel) rfl
set_option maxRecDepth 100000 in
theorem q_1307 : (Jvm.Cond.instanceMethod ({ cls := "QuarrelBookModel", name := "cheap", desc := "(I)I" } : Jvm.MethodName)) ∈ lw_good := lw_mem 1307 (by decide +kernel) rfl
set_option maxRecDepth 100000 in
theorem q_1308 : (Jvm.Cond.selects "QuarrelBookModel" ({ cls := "QuarrelBookModel", name := "cheap", desc := "(I)I" } : Jvm.MethodName) ({ cls := "QuarrelBookModel", name := "cheap", desc := "(I)I" } : Jvm.MethodName)) ∈ lw_good := lw_mem 1308 (by decide +kernel) rfl
set_option maxRecDepth 100000 in
theorem q_1309 : (Jvm.Cond.code ({ cls := "QuarrelBookModel", name := "cheap", desc := "(I)I" } : Jvm.MethodName) prog_14_method_59_code (5 : Nat) (Option.some Jvm.ClassFile.FieldType.int)) ∈ lw_good := lw_mem 1309 (by decide +kernel) rfl
set_option maxRecDepth 100000 in
theorem q_1314 : (Jvm.Cond.methodLink "QuarrelBookLaw" (112 : Nat) ({ cls := "QuarrelBookModel", name := "cheapAt", desc := "(II)I" } : Jvm.MethodName)) ∈ lw_good := lw_mem 1314 (by decide +kernel) rfl
set_option maxRecDepth 100000 in
theorem q_1315 : (Jvm.Cond.instanceMethod ({ cls := "QuarrelBookModel", name := "cheapAt", desc := "(II)I" } : Jvm.MethodName)) ∈ lw_good := lw_mem 1315 (by decide +kernel) rfl
set_option maxRecDepth 100000 in
theorem q_1316 : (Jvm.Cond.selects "QuarrelBookModel" ({ cls := "QuarrelBookModel", name := "cheapAt", desc := "(II)I" } : Jvm.MethodName) ({ cls := "QuarrelBookModel", name := "cheapAt", desc := "(II)I" } : Jvm.MethodName)) ∈ lw_good := lw_mem 1316 (by decide +kernel) rfl
set_option maxRecDepth 100000 in
theorem q_1317 : (Jvm.Cond.code ({ cls := "QuarrelBookModel", name := "cheapAt", desc := "(II)I" } : Jvm.MethodName) prog_14_method_60_code (5 : Nat) (Option.some Jvm.ClassFile.FieldType.int)) ∈ lw_good := lw_mem 1317 (by decide +kernel) rfl
set_option maxRecDepth 100000 in
theorem q_1318 : (Jvm.Cond.methodLink "QuarrelBookLaw" (117 : Nat) ({ cls := "QuarrelBookModel", name := "all", desc := "()I" } : Jvm.MethodName)) ∈ lw_good := lw_mem 1318 (by decide +kernel) rfl
set_option maxRecDepth 100000 in
theorem q_1319 : (Jvm.Cond.instanceMethod ({ cls := "QuarrelBookModel", name := "all", desc := "()I" } : Jvm.MethodName)) ∈ lw_good := lw_mem 1319 (by decide +kernel) rfl
set_option maxRecDepth 100000 in
theorem q_1320 : (Jvm.Cond.selects "QuarrelBookModel" ({ cls := "QuarrelBookModel", name := "all", desc := "()I" } : Jvm.MethodName) ({ cls := "QuarrelBookModel", name := "all", desc := "()I" } : Jvm.MethodName)) ∈ lw_good := lw_mem 1320 (by decide +kernel) rfl
set_option maxRecDepth 100000 in
theorem q_1321 : (Jvm.Cond.code ({ cls := "QuarrelBookModel", name := "all", desc := "()I" } : Jvm.MethodName) prog_14_method_61_code (3 : Nat) (Option.some Jvm.ClassFile.FieldType.int)) ∈ lw_good := lw_mem 1321 (by decide +kernel) rfl
set_option maxRecDepth 100000 in
theorem q_1322 : (Jvm.Cond.methodLink "QuarrelBookLaw" (121 : Nat) ({ cls := "QuarrelBookModel", name := "against", desc := "(I)I" } : Jvm.MethodName)) ∈ lw_good := lw_mem 1322 (by decide +kernel) rfl
set_option maxRecDepth 100000 in
theorem q_1323 : (Jvm.Cond.instanceMethod ({ cls := "QuarrelBookModel", name := "against", desc := "(I)I" } : Jvm.MethodName)) ∈ lw_good := lw_mem 1323 (by decide +kernel) rfl
set_option maxRecDepth 100000 in
theorem q_1324 : (Jvm.Cond.selects "QuarrelBookModel" ({ cls := "QuarrelBookModel", name := "against", desc := "(I)I" } : Jvm.MethodName) ({ cls := "QuarrelBookModel", name := "against", desc := "(I)I" } : Jvm.MethodName)) ∈ lw_good := lw_mem 1324 (by decide +kernel) rfl
set_option maxRecDepth 100000 in
theorem q_1325 : (Jvm.Cond.code ({ cls := "QuarrelBookModel", name := "against", desc := "(I)I" } : Jvm.MethodName) prog_14_method_64_code (2 : Nat) (Option.some Jvm.ClassFile.FieldType.int)) ∈ lw_good := lw_mem 1325 (by decide +kernel) rfl
set_option maxRecDepth 100000 in
theorem q_1334 : (Jvm.Cond.methodLink "QuarrelBookLaw" (125 : Nat) ({ cls := "QuarrelBookModel", name := "nobody", desc := "()I" } : Jvm.MethodName)) ∈ lw_good := lw_mem 1334 (by decide +kernel) rfl
set_option maxRecDepth 100000 in
theorem q_1335 : (Jvm.Cond.instanceMethod ({ cls := "QuarrelBookModel", name := "nobody", desc := "()I" } : Jvm.MethodName)) ∈ lw_good := lw_mem 1335 (by decide +kernel) rfl
set_option maxRecDepth 100000 in
theorem q_1336 : (Jvm.Cond.selects "QuarrelBookModel" ({ cls := "QuarrelBookModel", name := "nobody", desc := "()I" } : Jvm.MethodName) ({ cls := "QuarrelBookModel", name := "nobody", desc := "()I" } : Jvm.MethodName)) ∈ lw_good := lw_mem 1336 (by decide +kernel) rfl
set_option maxRecDepth 100000 in
theorem q_1337 : (Jvm.Cond.code ({ cls := "QuarrelBookModel", name := "nobody", desc := "()I" } : Jvm.MethodName) prog_14_method_65_code (5 : Nat) (Option.some Jvm.ClassFile.FieldType.int)) ∈ lw_good := lw_mem 1337 (by decide +kernel) rfl
set_option maxRecDepth 100000 in
theorem q_1338 : (Jvm.Cond.methodLink "QuarrelBookLaw" (129 : Nat) ({ cls := "QuarrelBookModel", name := "plain", desc := "(I)I" } : Jvm.MethodName)) ∈ lw_good := lw_mem 1338 (by decide +kernel) rfl
set_option maxRecDepth 100000 in
theorem q_1339 : (Jvm.Cond.instanceMethod ({ cls := "QuarrelBookModel", name := "plain", desc := "(I)I" } : Jvm.MethodName)) ∈ lw_good := lw_mem 1339 (by decide +kernel) rfl
set_option maxRecDepth 100000 in
theorem q_1340 : (Jvm.Cond.selects "QuarrelBookModel" ({ cls := "QuarrelBookModel", name := "plain", desc := "(I)I" } : Jvm.MethodName) ({ cls := "QuarrelBookModel", name := "plain", desc := "(I)I" } : Jvm.MethodName)) ∈ lw_good := lw_mem 1340 (by decide +kernel) rfl
set_option maxRecDepth 100000 in
theorem q_1341 : (Jvm.Cond.code ({ cls := "QuarrelBookModel", name := "plain", desc := "(I)I" } : Jvm.MethodName) prog_14_method_68_code (4 : Nat) (Option.some Jvm.ClassFile.FieldType.int)) ∈ lw_good := lw_mem 1341 (by decide +kernel) rfl
set_option maxRecDepth 100000 in
theorem q_1350 : (Jvm.Cond.methodLink "QuarrelBookLaw" (133 : Nat) ({ cls := "QuarrelBookModel", name := "changed", desc := "(I)I" } : Jvm.MethodName)) ∈ lw_good := lw_mem 1350 (by decide +kernel) rfl
set_option maxRecDepth 100000 in
theorem q_1351 : (Jvm.Cond.instanceMethod ({ cls := "QuarrelBookModel", name := "changed", desc := "(I)I" } : Jvm.MethodName)) ∈ lw_good := lw_mem 1351 (by decide +kernel) rfl
set_option maxRecDepth 100000 in
theorem q_1352 : (Jvm.Cond.selects "QuarrelBookModel" ({ cls := "QuarrelBookModel", name := "changed", desc := "(I)I" } : Jvm.MethodName) ({ cls := "QuarrelBookModel", name := "changed", desc := "(I)I" } : Jvm.MethodName)) ∈ lw_good := lw_mem 1352 (by decide +kernel) rfl
set_option maxRecDepth 100000 in
theorem q_1353 : (Jvm.Cond.code ({ cls := "QuarrelBookModel", name := "changed", desc := "(I)I" } : Jvm.MethodName) prog_14_method_71_code (7 : Nat) (Option.some Jvm.ClassFile.FieldType.int)) ∈ lw_good := lw_mem 1353 (by decide +kernel) rfl
set_option maxRecDepth 100000 in
theorem q_1362 : (Jvm.Cond.methodLink "QuarrelBookLaw" (137 : Nat) ({ cls := "QuarrelBookModel", name := "parts", desc := "(II)I" } : Jvm.MethodName)) ∈ lw_good := lw_mem 1362 (by decide +kernel) rfl
set_option maxRecDepth 100000 in
theorem q_1363 : (Jvm.Cond.instanceMethod ({ cls := "QuarrelBookModel", name := "parts", desc := "(II)I" } : Jvm.MethodName)) ∈ lw_good := lw_mem 1363 (by decide +kernel) rfl
set_option maxRecDepth 100000 in
theorem q_1364 : (Jvm.Cond.selects "QuarrelBookModel" ({ cls := "QuarrelBookModel", name := "parts", desc := "(II)I" } : Jvm.MethodName) ({ cls := "QuarrelBookModel", name := "parts", desc := "(II)I" } : Jvm.MethodName)) ∈ lw_good := lw_mem 1364 (by decide +kernel) rfl
set_option maxRecDepth 100000 in
theorem q_1365 : (Jvm.Cond.code ({ cls := "QuarrelBookModel", name := "parts", desc := "(II)I" } : Jvm.MethodName) prog_14_method_72_code (6 : Nat) (Option.some Jvm.ClassFile.FieldType.int)) ∈ lw_good := lw_mem 1365 (by decide +kernel) rfl
set_option maxRecDepth 100000 in
theorem q_1369 : (Jvm.Cond.methodLink "QuarrelBookLaw" (141 : Nat) ({ cls := "QuarrelBookModel", name := "met", desc := "(II)I" } : Jvm.MethodName)) ∈ lw_good := lw_mem 1369 (by decide +kernel) rfl
set_option maxRecDepth 100000 in
theorem q_1370 : (Jvm.Cond.instanceMethod ({ cls := "QuarrelBookModel", name := "met", desc := "(II)I" } : Jvm.MethodName)) ∈ lw_good := lw_mem 1370 (by decide +kernel) rfl
set_option maxRecDepth 100000 in
theorem q_1371 : (Jvm.Cond.selects "QuarrelBookModel" ({ cls := "QuarrelBookModel", name := "met", desc := "(II)I" } : Jvm.MethodName) ({ cls := "QuarrelBookModel", name := "met", desc := "(II)I" } : Jvm.MethodName)) ∈ lw_good := lw_mem 1371 (by decide +kernel) rfl
set_option maxRecDepth 100000 in
theorem q_1372 : (Jvm.Cond.code ({ cls := "QuarrelBookModel", name := "met", desc := "(II)I" } : Jvm.MethodName) prog_14_method_74_code (5 : Nat) (Option.some Jvm.ClassFile.FieldType.int)) ∈ lw_good := lw_mem 1372 (by decide +kernel) rfl
set_option maxRecDepth 100000 in
theorem q_1373 : (Jvm.Cond.methodLink "QuarrelBookLaw" (145 : Nat) ({ cls := "QuarrelBookModel", name := "can", desc := "(I)I" } : Jvm.MethodName)) ∈ lw_good := lw_mem 1373 (by decide +kernel) rfl
set_option maxRecDepth 100000 in
theorem q_1374 : (Jvm.Cond.instanceMethod ({ cls := "QuarrelBookModel", name := "can", desc := "(I)I" } : Jvm.MethodName)) ∈ lw_good := lw_mem 1374 (by decide +kernel) rfl
set_option maxRecDepth 100000 in
theorem q_1375 : (Jvm.Cond.selects "QuarrelBookModel" ({ cls := "QuarrelBookModel", name := "can", desc := "(I)I" } : Jvm.MethodName) ({ cls := "QuarrelBookModel", name := "can", desc := "(I)I" } : Jvm.MethodName)) ∈ lw_good := lw_mem 1375 (by decide +kernel) rfl
set_option maxRecDepth 100000 in
theorem q_1376 : (Jvm.Cond.code ({ cls := "QuarrelBookModel", name := "can", desc := "(I)I" } : Jvm.MethodName) prog_14_method_75_code (5 : Nat) (Option.some Jvm.ClassFile.FieldType.int)) ∈ lw_good := lw_mem 1376 (by decide +kernel) rfl
set_option maxRecDepth 100000 in
theorem q_1377 : (Jvm.Cond.methodLink "QuarrelBookLaw" (149 : Nat) ({ cls := "QuarrelBookModel", name := "reads", desc := "(III)I" } : Jvm.MethodName)) ∈ lw_good := lw_mem 1377 (by decide +kernel) rfl
set_option maxRecDepth 100000 in
theorem q_1378 : (Jvm.Cond.instanceMethod ({ cls := "QuarrelBookModel", name := "reads", desc := "(III)I" } : Jvm.MethodName)) ∈ lw_good := lw_mem 1378 (by decide +kernel) rfl
set_option maxRecDepth 100000 in
theorem q_1379 : (Jvm.Cond.selects "QuarrelBookModel" ({ cls := "QuarrelBookModel", name := "reads", desc := "(III)I" } : Jvm.MethodName) ({ cls := "QuarrelBookModel", name := "reads", desc := "(III)I" } : Jvm.MethodName)) ∈ lw_good := lw_mem 1379 (by decide +kernel) rfl
set_option maxRecDepth 100000 in
theorem q_1380 : (Jvm.Cond.code ({ cls := "QuarrelBookModel", name := "reads", desc := "(III)I" } : Jvm.MethodName) prog_14_method_76_code (5 : Nat) (Option.some Jvm.ClassFile.FieldType.int)) ∈ lw_good := lw_mem 1380 (by decide +kernel) rfl
set_option maxRecDepth 100000 in
theorem q_1381 : (Jvm.Cond.methodLink "QuarrelBookLaw" (153 : Nat) ({ cls := "QuarrelBookModel", name := "reading", desc := "(I)I" } : Jvm.MethodName)) ∈ lw_good := lw_mem 1381 (by decide +kernel) rfl
set_option maxRecDepth 100000 in
theorem q_1382 : (Jvm.Cond.instanceMethod ({ cls := "QuarrelBookModel", name := "reading", desc := "(I)I" } : Jvm.MethodName)) ∈ lw_good := lw_mem 1382 (by decide +kernel) rfl
set_option maxRecDepth 100000 in
theorem q_1383 : (Jvm.Cond.selects "QuarrelBookModel" ({ cls := "QuarrelBookModel", name := "reading", desc := "(I)I" } : Jvm.MethodName) ({ cls := "QuarrelBookModel", name := "reading", desc := "(I)I" } : Jvm.MethodName)) ∈ lw_good := lw_mem 1383 (by decide +kernel) rfl
set_option maxRecDepth 100000 in
theorem q_1384 : (Jvm.Cond.code ({ cls := "QuarrelBookModel", name := "reading", desc := "(I)I" } : Jvm.MethodName) prog_14_method_77_code (5 : Nat) (Option.some Jvm.ClassFile.FieldType.int)) ∈ lw_good := lw_mem 1384 (by decide +kernel) rfl
set_option maxRecDepth 100000 in
theorem q_1385 : (Jvm.Cond.methodLink "QuarrelBookLaw" (157 : Nat) ({ cls := "QuarrelBookModel", name := "slip", desc := "(III)I" } : Jvm.MethodName)) ∈ lw_good := lw_mem 1385 (by decide +kernel) rfl
set_option maxRecDepth 100000 in
theorem q_1386 : (Jvm.Cond.instanceMethod ({ cls := "QuarrelBookModel", name := "slip", desc := "(III)I" } : Jvm.MethodName)) ∈ lw_good := lw_mem 1386 (by decide +kernel) rfl
set_option maxRecDepth 100000 in
theorem q_1387 : (Jvm.Cond.selects "QuarrelBookModel" ({ cls := "QuarrelBookModel", name := "slip", desc := "(III)I" } : Jvm.MethodName) ({ cls := "QuarrelBookModel", name := "slip", desc := "(III)I" } : Jvm.MethodName)) ∈ lw_good := lw_mem 1387 (by decide +kernel) rfl
set_option maxRecDepth 100000 in
theorem q_1388 : (Jvm.Cond.code ({ cls := "QuarrelBookModel", name := "slip", desc := "(III)I" } : Jvm.MethodName) prog_14_method_78_code (16 : Nat) (Option.some Jvm.ClassFile.FieldType.int)) ∈ lw_good := lw_mem 1388 (by decide +kernel) rfl
set_option maxRecDepth 100000 in
theorem q_1389 : (Jvm.Cond.methodLink "QuarrelBookLaw" (161 : Nat) ({ cls := "QuarrelBookModel", name := "runs", desc := "(I)I" } : Jvm.MethodName)) ∈ lw_good := lw_mem 1389 (by decide +kernel) rfl
set_option maxRecDepth 100000 in
theorem q_1390 : (Jvm.Cond.instanceMethod ({ cls := "QuarrelBookModel", name := "runs", desc := "(I)I" } : Jvm.MethodName)) ∈ lw_good := lw_mem 1390 (by decide +kernel) rfl
set_option maxRecDepth 100000 in
theorem q_1391 : (Jvm.Cond.selects "QuarrelBookModel" ({ cls := "QuarrelBookModel", name := "runs", desc := "(I)I" } : Jvm.MethodName) ({ cls := "QuarrelBookModel", name := "runs", desc := "(I)I" } : Jvm.MethodName)) ∈ lw_good := lw_mem 1391 (by decide +kernel) rfl
set_option maxRecDepth 100000 in
theorem q_1392 : (Jvm.Cond.code ({ cls := "QuarrelBookModel", name := "runs", desc := "(I)I" } : Jvm.MethodName) prog_14_method_79_code (5 : Nat) (Option.some Jvm.ClassFile.FieldType.int)) ∈ lw_good := lw_mem 1392 (by decide +kernel) rfl
set_option maxRecDepth 100000 in
theorem q_1393 : (Jvm.Cond.methodLink "QuarrelBookLaw" (165 : Nat) ({ cls := "QuarrelBookModel", name := "move", desc := "(III)I" } : Jvm.MethodName)) ∈ lw_good := lw_mem 1393 (by decide +kernel) rfl
set_option maxRecDepth 100000 in
theorem q_1394 : (Jvm.Cond.instanceMethod ({ cls := "QuarrelBookModel", name := "move", desc := "(III)I" } : Jvm.MethodName)) ∈ lw_good := lw_mem 1394 (by decide +kernel) rfl
set_option maxRecDepth 100000 in
theorem q_1395 : (Jvm.Cond.selects "QuarrelBookModel" ({ cls := "QuarrelBookModel", name := "move", desc := "(III)I" } : Jvm.MethodName) ({ cls := "QuarrelBookModel", name := "move", desc := "(III)I" } : Jvm.MethodName)) ∈ lw_good := lw_mem 1395 (by decide +kernel) rfl
set_option maxRecDepth 100000 in
theorem q_1396 : (Jvm.Cond.code ({ cls := "QuarrelBookModel", name := "move", desc := "(III)I" } : Jvm.MethodName) prog_14_method_81_code (4 : Nat) (Option.some Jvm.ClassFile.FieldType.int)) ∈ lw_good := lw_mem 1396 (by decide +kernel) rfl
set_option maxRecDepth 100000 in
theorem q_1401 : (Jvm.Cond.methodLink "QuarrelBookLaw" (169 : Nat) ({ cls := "QuarrelBookModel", name := "moved", desc := "(II)I" } : Jvm.MethodName)) ∈ lw_good := lw_mem 1401 (by decide +kernel) rfl
set_option maxRecDepth 100000 in
theorem q_1402 : (Jvm.Cond.instanceMethod ({ cls := "QuarrelBookModel", name := "moved", desc := "(II)I" } : Jvm.MethodName)) ∈ lw_good := lw_mem 1402 (by decide +kernel) rfl
set_option maxRecDepth 100000 in
theorem q_1403 : (Jvm.Cond.selects "QuarrelBookModel" ({ cls := "QuarrelBookModel", name := "moved", desc := "(II)I" } : Jvm.MethodName) ({ cls := "QuarrelBookModel", name := "moved", desc := "(II)I" } : Jvm.MethodName)) ∈ lw_good := lw_mem 1403 (by decide +kernel) rfl
set_option maxRecDepth 100000 in
theorem q_1404 : (Jvm.Cond.code ({ cls := "QuarrelBookModel", name := "moved", desc := "(II)I" } : Jvm.MethodName) prog_14_method_83_code (3 : Nat) (Option.some Jvm.ClassFile.FieldType.int)) ∈ lw_good := lw_mem 1404 (by decide +kernel) rfl
set_option maxRecDepth 100000 in
theorem q_1409 : (Jvm.Cond.methodLink "QuarrelBookLaw" (173 : Nat) ({ cls := "QuarrelBookModel", name := "mark", desc := "(II)I" } : Jvm.MethodName)) ∈ lw_good := lw_mem 1409 (by decide +kernel) rfl
set_option maxRecDepth 100000 in
theorem q_1410 : (Jvm.Cond.instanceMethod ({ cls := "QuarrelBookModel", name := "mark", desc := "(II)I" } : Jvm.MethodName)) ∈ lw_good := lw_mem 1410 (by decide +kernel) rfl
set_option maxRecDepth 100000 in
theorem q_1411 : (Jvm.Cond.selects "QuarrelBookModel" ({ cls := "QuarrelBookModel", name := "mark", desc := "(II)I" } : Jvm.MethodName) ({ cls := "QuarrelBookModel", name := "mark", desc := "(II)I" } : Jvm.MethodName)) ∈ lw_good := lw_mem 1411 (by decide +kernel) rfl
set_option maxRecDepth 100000 in
theorem q_1412 : (Jvm.Cond.code ({ cls := "QuarrelBookModel", name := "mark", desc := "(II)I" } : Jvm.MethodName) prog_14_method_84_code (8 : Nat) (Option.some Jvm.ClassFile.FieldType.int)) ∈ lw_good := lw_mem 1412 (by decide +kernel) rfl
set_option maxRecDepth 100000 in
theorem q_1413 : (Jvm.Cond.methodLink "QuarrelBookLaw" (177 : Nat) ({ cls := "QuarrelBookModel", name := "follow", desc := "()I" } : Jvm.MethodName)) ∈ lw_good := lw_mem 1413 (by decide +kernel) rfl
set_option maxRecDepth 100000 in
theorem q_1414 : (Jvm.Cond.instanceMethod ({ cls := "QuarrelBookModel", name := "follow", desc := "()I" } : Jvm.MethodName)) ∈ lw_good := lw_mem 1414 (by decide +kernel) rfl
set_option maxRecDepth 100000 in
theorem q_1415 : (Jvm.Cond.selects "QuarrelBookModel" ({ cls := "QuarrelBookModel", name := "follow", desc := "()I" } : Jvm.MethodName) ({ cls := "QuarrelBookModel", name := "follow", desc := "()I" } : Jvm.MethodName)) ∈ lw_good := lw_mem 1415 (by decide +kernel) rfl
set_option maxRecDepth 100000 in
theorem q_1416 : (Jvm.Cond.code ({ cls := "QuarrelBookModel", name := "follow", desc := "()I" } : Jvm.MethodName) prog_14_method_86_code (6 : Nat) (Option.some Jvm.ClassFile.FieldType.int)) ∈ lw_good := lw_mem 1416 (by decide +kernel) rfl
set_option maxRecDepth 100000 in
theorem q_1421 : (Jvm.Cond.methodLink "QuarrelBookLaw" (181 : Nat) ({ cls := "QuarrelBookModel", name := "law", desc := "(II)I" } : Jvm.MethodName)) ∈ lw_good := lw_mem 1421 (by decide +kernel) rfl
set_option maxRecDepth 100000 in
theorem q_1422 : (Jvm.Cond.instanceMethod ({ cls := "QuarrelBookModel", name := "law", desc := "(II)I" } : Jvm.MethodName)) ∈ lw_good := lw_mem 1422 (by decide +kernel) rfl
set_option maxRecDepth 100000 in
theorem q_1423 : (Jvm.Cond.selects "QuarrelBookModel" ({ cls := "QuarrelBookModel", name := "law", desc := "(II)I" } : Jvm.MethodName) ({ cls := "QuarrelBookModel", name := "law", desc := "(II)I" } : Jvm.MethodName)) ∈ lw_good := lw_mem 1423 (by decide +kernel) rfl
set_option maxRecDepth 100000 in
theorem q_1424 : (Jvm.Cond.code ({ cls := "QuarrelBookModel", name := "law", desc := "(II)I" } : Jvm.MethodName) prog_14_method_89_code (4 : Nat) (Option.some Jvm.ClassFile.FieldType.int)) ∈ lw_good := lw_mem 1424 (by decide +kernel) rfl
set_option maxRecDepth 100000 in
theorem q_1432 : (Jvm.Cond.methodLink "QuarrelBookLaw" (185 : Nat) ({ cls := "QuarrelBookModel", name := "lawsPart", desc := "(II)I" } : Jvm.MethodName)) ∈ lw_good := lw_mem 1432 (by decide +kernel) rfl
set_option maxRecDepth 100000 in
theorem q_1433 : (Jvm.Cond.instanceMethod ({ cls := "QuarrelBookModel", name := "lawsPart", desc := "(II)I" } : Jvm.MethodName)) ∈ lw_good := lw_mem 1433 (by decide +kernel) rfl
set_option maxRecDepth 100000 in
theorem q_1434 : (Jvm.Cond.selects "QuarrelBookModel" ({ cls := "QuarrelBookModel", name := "lawsPart", desc := "(II)I" } : Jvm.MethodName) ({ cls := "QuarrelBookModel", name := "lawsPart", desc := "(II)I" } : Jvm.MethodName)) ∈ lw_good := lw_mem 1434 (by decide +kernel) rfl
set_option maxRecDepth 100000 in
theorem q_1435 : (Jvm.Cond.code ({ cls := "QuarrelBookModel", name := "lawsPart", desc := "(II)I" } : Jvm.MethodName) prog_14_method_90_code (5 : Nat) (Option.some Jvm.ClassFile.FieldType.int)) ∈ lw_good := lw_mem 1435 (by decide +kernel) rfl
set_option maxRecDepth 100000 in
theorem q_1436 : (Jvm.Cond.methodLink "QuarrelBookLaw" (189 : Nat) ({ cls := "QuarrelBookModel", name := "fresh", desc := "(II)I" } : Jvm.MethodName)) ∈ lw_good := lw_mem 1436 (by decide +kernel) rfl
set_option maxRecDepth 100000 in
theorem q_1437 : (Jvm.Cond.instanceMethod ({ cls := "QuarrelBookModel", name := "fresh", desc := "(II)I" } : Jvm.MethodName)) ∈ lw_good := lw_mem 1437 (by decide +kernel) rfl
set_option maxRecDepth 100000 in
theorem q_1438 : (Jvm.Cond.selects "QuarrelBookModel" ({ cls := "QuarrelBookModel", name := "fresh", desc := "(II)I" } : Jvm.MethodName) ({ cls := "QuarrelBookModel", name := "fresh", desc := "(II)I" } : Jvm.MethodName)) ∈ lw_good := lw_mem 1438 (by decide +kernel) rfl
set_option maxRecDepth 100000 in
theorem q_1439 : (Jvm.Cond.code ({ cls := "QuarrelBookModel", name := "fresh", desc := "(II)I" } : Jvm.MethodName) prog_14_method_91_code (3 : Nat) (Option.some Jvm.ClassFile.FieldType.int)) ∈ lw_good := lw_mem 1439 (by decide +kernel) rfl
set_option maxRecDepth 100000 in
theorem q_1440 : (Jvm.Cond.methodLink "QuarrelBookLaw" (193 : Nat) ({ cls := "QuarrelBookModel", name := "next", desc := "()I" } : Jvm.MethodName)) ∈ lw_good := lw_mem 1440 (by decide +kernel) rfl
set_option maxRecDepth 100000 in
theorem q_1441 : (Jvm.Cond.instanceMethod ({ cls := "QuarrelBookModel", name := "next", desc := "()I" } : Jvm.MethodName)) ∈ lw_good := lw_mem 1441 (by decide +kernel) rfl
set_option maxRecDepth 100000 in
theorem q_1442 : (Jvm.Cond.selects "QuarrelBookModel" ({ cls := "QuarrelBookModel", name := "next", desc := "()I" } : Jvm.MethodName) ({ cls := "QuarrelBookModel", name := "next", desc := "()I" } : Jvm.MethodName)) ∈ lw_good := lw_mem 1442 (by decide +kernel) rfl
set_option maxRecDepth 100000 in
theorem q_1443 : (Jvm.Cond.code ({ cls := "QuarrelBookModel", name := "next", desc := "()I" } : Jvm.MethodName) prog_14_method_92_code (4 : Nat) (Option.some Jvm.ClassFile.FieldType.int)) ∈ lw_good := lw_mem 1443 (by decide +kernel) rfl
set_option maxRecDepth 100000 in
theorem q_1444 : (Jvm.Cond.methodLink "QuarrelBookLaw" (197 : Nat) ({ cls := "QuarrelBookModel", name := "asked", desc := "()I" } : Jvm.MethodName)) ∈ lw_good := lw_mem 1444 (by decide +kernel) rfl
set_option maxRecDepth 100000 in
theorem q_1445 : (Jvm.Cond.instanceMethod ({ cls := "QuarrelBookModel", name := "asked", desc := "()I" } : Jvm.MethodName)) ∈ lw_good := lw_mem 1445 (by decide +kernel) rfl
set_option maxRecDepth 100000 in
theorem q_1446 : (Jvm.Cond.selects "QuarrelBookModel" ({ cls := "QuarrelBookModel", name := "asked", desc := "()I" } : Jvm.MethodName) ({ cls := "QuarrelBookModel", name := "asked", desc := "()I" } : Jvm.MethodName)) ∈ lw_good := lw_mem 1446 (by decide +kernel) rfl
set_option maxRecDepth 100000 in
theorem q_1447 : (Jvm.Cond.code ({ cls := "QuarrelBookModel", name := "asked", desc := "()I" } : Jvm.MethodName) prog_14_method_93_code (1 : Nat) (Option.some Jvm.ClassFile.FieldType.int)) ∈ lw_good := lw_mem 1447 (by decide +kernel) rfl
set_option maxRecDepth 100000 in
theorem q_1448 : (Jvm.Cond.methodLink "QuarrelBookLaw" (202 : Nat) ({ cls := "QuarrelBookModel", name := "upper", desc := "()J" } : Jvm.MethodName)) ∈ lw_good := lw_mem 1448 (by decide +kernel) rfl
set_option maxRecDepth 100000 in
theorem q_1449 : (Jvm.Cond.instanceMethod ({ cls := "QuarrelBookModel", name := "upper", desc := "()J" } : Jvm.MethodName)) ∈ lw_good := lw_mem 1449 (by decide +kernel) rfl
set_option maxRecDepth 100000 in
theorem q_1450 : (Jvm.Cond.selects "QuarrelBookModel" ({ cls := "QuarrelBookModel", name := "upper", desc := "()J" } : Jvm.MethodName) ({ cls := "QuarrelBookModel", name := "upper", desc := "()J" } : Jvm.MethodName)) ∈ lw_good := lw_mem 1450 (by decide +kernel) rfl
set_option maxRecDepth 100000 in
theorem q_1451 : (Jvm.Cond.code ({ cls := "QuarrelBookModel", name := "upper", desc := "()J" } : Jvm.MethodName) prog_14_method_94_code (1 : Nat) (Option.some Jvm.ClassFile.FieldType.long)) ∈ lw_good := lw_mem 1451 (by decide +kernel) rfl
set_option maxRecDepth 100000 in
theorem q_1452 : (Jvm.Cond.methodLink "QuarrelBookLaw" (206 : Nat) ({ cls := "QuarrelBookModel", name := "lower", desc := "()J" } : Jvm.MethodName)) ∈ lw_good := lw_mem 1452 (by decide +kernel) rfl
set_option maxRecDepth 100000 in
theorem q_1453 : (Jvm.Cond.instanceMethod ({ cls := "QuarrelBookModel", name := "lower", desc := "()J" } : Jvm.MethodName)) ∈ lw_good := lw_mem 1453 (by decide +kernel) rfl
set_option maxRecDepth 100000 in
theorem q_1454 : (Jvm.Cond.selects "QuarrelBookModel" ({ cls := "QuarrelBookModel", name := "lower", desc := "()J" } : Jvm.MethodName) ({ cls := "QuarrelBookModel", name := "lower", desc := "()J" } : Jvm.MethodName)) ∈ lw_good := lw_mem 1454 (by decide +kernel) rfl
set_option maxRecDepth 100000 in
theorem q_1455 : (Jvm.Cond.code ({ cls := "QuarrelBookModel", name := "lower", desc := "()J" } : Jvm.MethodName) prog_14_method_95_code (1 : Nat) (Option.some Jvm.ClassFile.FieldType.long)) ∈ lw_good := lw_mem 1455 (by decide +kernel) rfl
set_option maxRecDepth 100000 in
theorem q_1456 : (Jvm.Cond.methodLink "QuarrelBookLaw" (210 : Nat) ({ cls := "QuarrelBookModel", name := "count", desc := "(I)I" } : Jvm.MethodName)) ∈ lw_good := lw_mem 1456 (by decide +kernel) rfl
set_option maxRecDepth 100000 in
theorem q_1457 : (Jvm.Cond.instanceMethod ({ cls := "QuarrelBookModel", name := "count", desc := "(I)I" } : Jvm.MethodName)) ∈ lw_good := lw_mem 1457 (by decide +kernel) rfl
set_option maxRecDepth 100000 in
theorem q_1458 : (Jvm.Cond.selects "QuarrelBookModel" ({ cls := "QuarrelBookModel", name := "count", desc := "(I)I" } : Jvm.MethodName) ({ cls := "QuarrelBookModel", name := "count", desc := "(I)I" } : Jvm.MethodName)) ∈ lw_good := lw_mem 1458 (by decide +kernel) rfl
set_option maxRecDepth 100000 in
theorem q_1459 : (Jvm.Cond.code ({ cls := "QuarrelBookModel", name := "count", desc := "(I)I" } : Jvm.MethodName) prog_14_method_97_code (2 : Nat) (Option.some Jvm.ClassFile.FieldType.int)) ∈ lw_good := lw_mem 1459 (by decide +kernel) rfl
set_option maxRecDepth 100000 in
theorem q_1464 : (Jvm.Cond.methodLink "QuarrelBookLaw" (214 : Nat) ({ cls := "QuarrelBookModel", name := "finding", desc := "()I" } : Jvm.MethodName)) ∈ lw_good := lw_mem 1464 (by decide +kernel) rfl
set_option maxRecDepth 100000 in
theorem q_1465 : (Jvm.Cond.instanceMethod ({ cls := "QuarrelBookModel", name := "finding", desc := "()I" } : Jvm.MethodName)) ∈ lw_good := lw_mem 1465 (by decide +kernel) rfl
set_option maxRecDepth 100000 in
theorem q_1466 : (Jvm.Cond.selects "QuarrelBookModel" ({ cls := "QuarrelBookModel", name := "finding", desc := "()I" } : Jvm.MethodName) ({ cls := "QuarrelBookModel", name := "finding", desc := "()I" } : Jvm.MethodName)) ∈ lw_good := lw_mem 1466 (by decide +kernel) rfl
set_option maxRecDepth 100000 in
theorem q_1467 : (Jvm.Cond.code ({ cls := "QuarrelBookModel", name := "finding", desc := "()I" } : Jvm.MethodName) prog_14_method_98_code (1 : Nat) (Option.some Jvm.ClassFile.FieldType.int)) ∈ lw_good := lw_mem 1467 (by decide +kernel) rfl
set_option maxRecDepth 100000 in
theorem q_1468 : (Jvm.Cond.methodLink "QuarrelBookLaw" (218 : Nat) ({ cls := "QuarrelBookModel", name := "findings", desc := "(I)I" } : Jvm.MethodName)) ∈ lw_good := lw_mem 1468 (by decide +kernel) rfl
set_option maxRecDepth 100000 in
theorem q_1469 : (Jvm.Cond.instanceMethod ({ cls := "QuarrelBookModel", name := "findings", desc := "(I)I" } : Jvm.MethodName)) ∈ lw_good := lw_mem 1469 (by decide +kernel) rfl
set_option maxRecDepth 100000 in
theorem q_1470 : (Jvm.Cond.selects "QuarrelBookModel" ({ cls := "QuarrelBookModel", name := "findings", desc := "(I)I" } : Jvm.MethodName) ({ cls := "QuarrelBookModel", name := "findings", desc := "(I)I" } : Jvm.MethodName)) ∈ lw_good := lw_mem 1470 (by decide +kernel) rfl
set_option maxRecDepth 100000 in
theorem q_1471 : (Jvm.Cond.code ({ cls := "QuarrelBookModel", name := "findings", desc := "(I)I" } : Jvm.MethodName) prog_14_method_99_code (2 : Nat) (Option.some Jvm.ClassFile.FieldType.int)) ∈ lw_good := lw_mem 1471 (by decide +kernel) rfl
set_option maxRecDepth 100000 in
theorem q_1472 : (Jvm.Cond.methodLink "QuarrelBookLaw" (222 : Nat) ({ cls := "QuarrelBookModel", name := "digest", desc := "()J" } : Jvm.MethodName)) ∈ lw_good := lw_mem 1472 (by decide +kernel) rfl
set_option maxRecDepth 100000 in
theorem q_1473 : (Jvm.Cond.instanceMethod ({ cls := "QuarrelBookModel", name := "digest", desc := "()J" } : Jvm.MethodName)) ∈ lw_good := lw_mem 1473 (by decide +kernel) rfl
set_option maxRecDepth 100000 in
theorem q_1474 : (Jvm.Cond.selects "QuarrelBookModel" ({ cls := "QuarrelBookModel", name := "digest", desc := "()J" } : Jvm.MethodName) ({ cls := "QuarrelBookModel", name := "digest", desc := "()J" } : Jvm.MethodName)) ∈ lw_good := lw_mem 1474 (by decide +kernel) rfl
set_option maxRecDepth 100000 in
theorem q_1475 : (Jvm.Cond.code ({ cls := "QuarrelBookModel", name := "digest", desc := "()J" } : Jvm.MethodName) prog_14_method_102_code (3 : Nat) (Option.some Jvm.ClassFile.FieldType.long)) ∈ lw_good := lw_mem 1475 (by decide +kernel) rfl
