theorem lw_run : lw_Run := sorry
