def wIX0_drop : List Cond := Cond.code yX0_drop cX0_drop 3 (some .int) :: za_tb
set_option maxRecDepth 100000 in
theorem gIX0_drop : GoodIn za_tb wIX0_drop := zb_good (za_mem 86 rfl rfl)
def wIX0_init : List Cond := Cond.code yX0_init cX0_init 1 none :: za_tb
set_option maxRecDepth 100000 in
theorem gIX0_init : GoodIn za_tb wIX0_init := zb_good (za_mem 81 rfl rfl)
def wIX1_init : List Cond := Cond.code yX1_init cX1_init 1 none :: za_tb
set_option maxRecDepth 100000 in
theorem gIX1_init : GoodIn za_tb wIX1_init := zb_good (za_mem 51 rfl rfl)
def wIX2_init : List Cond := Cond.code yX2_init cX2_init 1 none :: za_tb
set_option maxRecDepth 100000 in
theorem gIX2_init : GoodIn za_tb wIX2_init := zb_good (za_mem 112 rfl rfl)
def wIX3_init : List Cond := Cond.code yX3_init cX3_init 1 none :: za_tb
set_option maxRecDepth 100000 in
theorem gIX3_init : GoodIn za_tb wIX3_init := zb_good (za_mem 43 rfl rfl)
def wIX4_init : List Cond := Cond.code yX4_init cX4_init 2 none :: za_tb
set_option maxRecDepth 100000 in
theorem gIX4_init : GoodIn za_tb wIX4_init := zb_good (za_mem 434 rfl rfl)
